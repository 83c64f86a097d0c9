/-! ===== pure rows: the model's search, its passes ===== -/
def okM (le bo wt : Nat → Nat) (c : Nat → Bool) (m : Nat) (R : Nat → Option Int) : Prop := ∀ i u v g, arcM le bo wt c m i u v g → okA R u v g
/-- what one pass has seen to: arcs from below i, and from i to below j -/
def thrM (le bo wt : Nat → Nat) (c : Nat → Bool) (m : Nat) (R0 R : Nat → Option Int) (i j : Nat) : Prop := ∀ l u v g, arcM le bo wt c m l u v g → u < i ∨ (u = i ∧ v < j) → ∀ a, R0 u = some a → ∃ b, R v = some b ∧ a + g ≤ b
def pasM (le bo wt : Nat → Nat) (c : Nat → Bool) (cap : Nat → Nat) (m : Nat) (R0 : Nat → Option Int) (i j fl : Nat) (R : Nat → Option Int) (V : Nat → Option Nat) (be fa st : Nat → Int32) : Prop := rI (arcM le bo wt c m) (srtM le bo wt c cap m) R V ∧ leR R0 R ∧ thrM le bo wt c m R0 R i j ∧ (fl = 0 → R = R0) ∧ fl ≤ 1 ∧ (okM le bo wt c m R0 → fl = 0) ∧ stM m R V be fa st
theorem arcM_g {le bo wt : Nat → Nat} {c : Nat → Bool} {m l u v l' : Nat} {g g' : Int} (h : arcM le bo wt c m l u v g) (h' : arcM le bo wt c m l' u v g') : l' = l ∧ g' = g := by
  obtain ⟨a1, _, _, a⟩ := h
  obtain ⟨b1, _, _, b⟩ := h'
  refine ⟨by omega, ?_⟩
  rcases a with ⟨a1, a2, a3, a4⟩ | ⟨a1, a2, a3, a4⟩ <;> rcases b with ⟨b1, b2, b3, b4⟩ | ⟨b1, b2, b3, b4⟩
  · omega
  · rw [a1] at b1; cases b1
  · rw [a1] at b1; cases b1
  · omega
theorem m_row {le bo wt : Nat → Nat} {isL c : Nat → Bool} {cap : Nat → Nat} {m nv : Nat} {φ : Nat → Int} {tt : Int} (hg : gwf le bo wt isL m nv) (hnv : nv ≤ 10) (hm : m ≤ 30) (hI : fInv le bo wt isL c cap m nv φ tt) (hφ : ∀ v, φ v ≤ 198) {sd wo inn : Nat → Int32} (hM : fM le bo wt m sd wo) (hin : ∀ i, i < m → inn i = b2i (c i)) (cp us : Nat → Int32) {R0 : Nat → Option Int} {i fl : Nat} (hi : i < m) {R : Nat → Option Int} {V : Nat → Option Nat} {be fa st : Nat → Int32} {x : Int} (hx : R i = some x) (hp : pasM le bo wt c cap m R0 i 0 fl R V be fa st) : ∃ (fl' : Nat) (R' : Nat → Option Int) (V' : Nat → Option Nat) (be' fa' st' : Nat → Int32), gn_X12_bestRow_5 (nI m) cp inn sd us wo (nI fl) (nI i) 0 be fa st = gn_X12_bestRow_4 (nI m) cp inn sd us wo (nI fl') (nI (i + 1)) be' fa' st' ∧ pasM le bo wt c cap m R0 (i + 1) 0 fl' R' V' be' fa' st' := by
  obtain ⟨q, h1, h2⟩ := pz_rel0 (fun k (q : Nat × (Nat → Int32) × (Nat → Int32) × (Nat → Int32)) => gn_X12_bestRow_5 (nI m) cp inn sd us wo (nI q.1) (nI i) (nI k) q.2.1 q.2.2.1 q.2.2.2) m (fun k q => ∃ R V, R i = some x ∧ pasM le bo wt c cap m R0 i k q.1 R V q.2.1 q.2.2.1 q.2.2.2) (fl, be, fa, st) ⟨R, V, hx, hp⟩ (by
    rintro k ⟨fl, be, fa, st⟩ hk ⟨R, V, hx, r1, r2, r3, r4, r5, r6, r7⟩
    have hbd := rM_bd hg hm hI hφ r1
    have hs7 : stM m R V be fa st := r7
    rcases m_try hg hnv hm hM hin hs7 (fun v x h => ⟨(hbd v x h).2.1, (hbd v x h).2.2.1, (hbd v x h).2.2.2.2⟩) cp us fl i k hi hk hx with ⟨hok, hst⟩ | ⟨g, ha, hlt, hst⟩
    · refine ⟨(fl, be, fa, st), ⟨R, V, hx, r1, r2, ?_, r4, r5, r6, r7⟩, hst⟩
      intro l u v g hA huv a ha0
      by_cases e : u = i ∧ v = k
      · obtain ⟨e1, e2⟩ := e
        subst e1; subst e2
        have hl : l = u := hA.1
        subst hl
        exact okA_le r2 (hok g hA) (leR.refl R) a ha0
      · exact r3 l u v g hA (by omega) a ha0
    · have hne : i ≠ k := by
        intro e
        subst e
        rcases ha.2.2.2 with ⟨a1, a2, _⟩ | ⟨a1, a2, _⟩ <;> rw [a1] at a2 <;> cases a2
      have hl2 : leR R (rset R k (x + g)) := leR_set hlt
      refine ⟨(1, _, _, _), ⟨rset R k (x + g), fun w => if w = k then some i else V w, by rw [rset_o hne]; exact hx, rI_set (φ := phM le bo c φ) (arcM_pot hI) r1 ha hx hne hlt, r2.trans hl2, ?_, fun h => (by cases h), Nat.le_refl 1, ?_, ?_⟩, hst⟩
      · intro l u v g' hA huv a ha0
        by_cases e : u = i ∧ v = k
        · obtain ⟨e1, e2⟩ := e
          subst e1; subst e2
          obtain ⟨_, e3⟩ := arcM_g ha hA
          subst e3
          exact okA_le (r2.trans hl2) (okA_set hx hne) (leR.refl _) a ha0
        · obtain ⟨b, e1, l1⟩ := r3 l u v g' hA (by omega) a ha0
          obtain ⟨b', e2, l2⟩ := hl2 v b e1
          exact ⟨b', e2, by omega⟩
      · intro hok0
        exfalso
        have := r4 (r6 hok0)
        subst this
        obtain ⟨b, b1, b2⟩ := hok0 _ _ _ _ ha x hx
        have := hlt b b1
        omega
      · intro w hw
        show upd be k (nI i) w = eV (if w = k then some i else V w) ∧ upd fa k (eF (some (x + g))) w = eF (rset R k (x + g) w) ∧ upd st k (eS (some (x + g))) w = eS (rset R k (x + g) w)
        by_cases e : w = k
        · subst e
          rw [pk_us, pk_us, pk_us, rset_s, if_pos rfl]; exact ⟨rfl, rfl, rfl⟩
        · rw [pk_un e, pk_un e, pk_un e, rset_o e, if_neg e]; exact hs7 w hw)
  obtain ⟨R', V', hx', r1, r2, r3, r4, r5, r6, r7⟩ := h1
  refine ⟨q.1, R', V', q.2.1, q.2.2.1, q.2.2.2, ?_, r1, r2, ?_, r4, r5, r6, r7⟩
  · have h3 : gn_X12_bestRow_5 (nI m) cp inn sd us wo (nI fl) (nI i) 0 be fa st = gn_X12_bestRow_5 (nI m) cp inn sd us wo (nI q.1) (nI i) (nI m) q.2.1 q.2.2.1 q.2.2.2 := h2
    rw [h3, gq_X12_bestRow_5, if_pos (nI_le (Nat.le_refl _) (by omega)), nI_1]
  · intro l u v g hA huv a ha0
    exact r3 l u v g hA (by have := hA.2.2.1; omega) a ha0
theorem m_pass {le bo wt : Nat → Nat} {isL c : Nat → Bool} {cap : Nat → Nat} {m nv : Nat} {φ : Nat → Int} {tt : Int} (hg : gwf le bo wt isL m nv) (hnv : nv ≤ 10) (hm : m ≤ 30) (hI : fInv le bo wt isL c cap m nv φ tt) (hφ : ∀ v, φ v ≤ 198) {sd wo inn : Nat → Int32} (hM : fM le bo wt m sd wo) (hin : ∀ i, i < m → inn i = b2i (c i)) (cp us : Nat → Int32) {R0 : Nat → Option Int} {V0 : Nat → Option Nat} {be fa st : Nat → Int32} (h0 : rI (arcM le bo wt c m) (srtM le bo wt c cap m) R0 V0) (hst : stM m R0 V0 be fa st) : ∃ (fl : Nat) (R : Nat → Option Int) (V : Nat → Option Nat) (be' fa' st' : Nat → Int32), gn_X12_bestRow_4 (nI m) cp inn sd us wo 0 0 be fa st = gn_X12_bestRow_1 (nI m) cp inn sd us wo (nI fl) be' fa' st' ∧ rI (arcM le bo wt c m) (srtM le bo wt c cap m) R V ∧ leR R0 R ∧ (∀ l u v g, arcM le bo wt c m l u v g → ∀ a, R0 u = some a → ∃ b, R v = some b ∧ a + g ≤ b) ∧ (fl = 0 → R = R0) ∧ fl ≤ 1 ∧ (okM le bo wt c m R0 → fl = 0) ∧ stM m R V be' fa' st' := by
  obtain ⟨q, h1, h2⟩ := pz_rel0 (fun k (q : Nat × (Nat → Int32) × (Nat → Int32) × (Nat → Int32)) => gn_X12_bestRow_4 (nI m) cp inn sd us wo (nI q.1) (nI k) q.2.1 q.2.2.1 q.2.2.2) m (fun k q => ∃ R V, pasM le bo wt c cap m R0 k 0 q.1 R V q.2.1 q.2.2.1 q.2.2.2) (0, be, fa, st) ⟨R0, V0, h0, leR.refl R0, fun l u v g hA h => by omega, fun _ => rfl, Nat.zero_le 1, fun _ => rfl, hst⟩ (by
    rintro k ⟨fl, be, fa, st⟩ hk ⟨R, V, hp⟩
    have hp' : pasM le bo wt c cap m R0 k 0 fl R V be fa st := hp
    obtain ⟨r1, r2, r3, r4, r5, r6, r7⟩ := hp'
    have hbd := rM_bd hg hm hI hφ r1
    have hfk := (r7 k hk).2.1
    have hq : gn_X12_bestRow_4 (nI m) cp inn sd us wo (nI fl) (nI k) be fa st = if eF (R k) = 1000000000 then gn_X12_bestRow_4 (nI m) cp inn sd us wo (nI fl) (nI (k + 1)) be fa st else gn_X12_bestRow_5 (nI m) cp inn sd us wo (nI fl) (nI k) 0 be fa st := by
      rw [gq_X12_bestRow_4, if_neg (nI_ge hk (by omega)), inb_nI (by omega) (by omega), if_pos rfl, nI_clamp (by omega), hfk, nI_1]
    cases hRk : R k with
    | none =>
      refine ⟨(fl, be, fa, st), ⟨R, V, r1, r2, fun l u v g hA huv a ha => ?_, r4, r5, r6, r7⟩, ?_⟩
      · by_cases e : u = k
        · subst e
          obtain ⟨b, b1, _⟩ := r2 u a ha
          rw [hRk] at b1; cases b1
        · exact r3 l u v g hA (by omega) a ha
      · show gn_X12_bestRow_4 (nI m) cp inn sd us wo (nI fl) (nI k) be fa st = _
        rw [hq, hRk, if_pos (show eF none = 1000000000 from rfl)]
    | some x =>
      obtain ⟨fl', R', V', be', fa', st', w1, w2⟩ := m_row hg hnv hm hI hφ hM hin cp us hk hRk ⟨r1, r2, r3, r4, r5, r6, r7⟩
      refine ⟨(fl', be', fa', st'), ⟨R', V', w2⟩, ?_⟩
      show gn_X12_bestRow_4 (nI m) cp inn sd us wo (nI fl) (nI k) be fa st = gn_X12_bestRow_4 (nI m) cp inn sd us wo (nI fl') (nI (k + 1)) be' fa' st'
      have hx := hbd k x hRk
      have hwx : -6300 ≤ wOf x ∧ wOf x ≤ 200 := by unfold wOf; omega
      have hne : ¬ eF (R k) = 1000000000 := by
        rw [hRk]
        show ¬ zI (-(wOf x)) = 1000000000
        rw [far_z, zI_eq (by omega) (by omega) (by omega) (by omega)]; omega
      rw [hq, if_neg hne, w1])
  obtain ⟨R, V, r1, r2, r3, r4, r5, r6, r7⟩ := h1
  refine ⟨q.1, R, V, q.2.1, q.2.2.1, q.2.2.2, ?_, r1, r2, fun l u v g hA a ha => r3 l u v g hA (Or.inl hA.2.1) a ha, r4, r5, r6, r7⟩
  have h3 : gn_X12_bestRow_4 (nI m) cp inn sd us wo 0 0 be fa st = gn_X12_bestRow_4 (nI m) cp inn sd us wo (nI q.1) (nI m) q.2.1 q.2.2.1 q.2.2.2 := h2
  rw [h3, gq_X12_bestRow_4, if_pos (nI_le (Nat.le_refl _) (by omega))]
theorem m_passes {le bo wt : Nat → Nat} {isL c : Nat → Bool} {cap : Nat → Nat} {m nv : Nat} {φ : Nat → Int} {tt : Int} (hg : gwf le bo wt isL m nv) (hnv : nv ≤ 10) (hm : m ≤ 30) (hI : fInv le bo wt isL c cap m nv φ tt) (hφ : ∀ v, φ v ≤ 198) {sd wo inn : Nat → Int32} (hM : fM le bo wt m sd wo) (hin : ∀ i, i < m → inn i = b2i (c i)) (cp us : Nat → Int32) : ∀ (j p fl : Nat) (R0 : Nat → Option Int) (V0 : Nat → Option Nat) (be fa st : Nat → Int32), p + j = 31 → rI (arcM le bo wt c m) (srtM le bo wt c cap m) R0 V0 → domR (fun u v g => ∃ i, arcM le bo wt c m i u v g) (srtM le bo wt c cap m) p R0 → (fl = 0 → okM le bo wt c m R0) → fl ≤ 1 → stM m R0 V0 be fa st →
    ∃ R V be' fa' st', gn_X12_bestRow_1 (nI m) cp inn sd us wo (nI fl) be fa st = gn_X12_bestRow_3 (nI m) cp inn sd us wo (-1) 0 be' fa' st' ∧ rI (arcM le bo wt c m) (srtM le bo wt c cap m) R V ∧ okM le bo wt c m R ∧ leR R0 R ∧ stM m R V be' fa' st'
  | 0, p, fl, R0, V0, be, fa, st, hp, h0, hd, hf, hfl, hst => by
    have hok : okM le bo wt c m R0 := fun i u v g hA => relax_end (φ := phM le bo c φ) (N := m) (fun u v g hh => hh.elim (fun i hi => arcM_pot hI i u v g hi)) (fun u v g hh => hh.elim (fun i hi => ⟨hi.2.1, hi.2.2.1⟩)) (fun v x hs => hs.1) (by omega) hd (leR.refl R0) h0.1 ⟨i, hA⟩
    by_cases c0 : fl = 0
    · subst c0
      exact ⟨R0, V0, be, fa, st, by rw [gq_X12_bestRow_1, if_pos (show nI 0 = 0 from rfl)], h0, hok, leR.refl R0, hst⟩
    · have e : fl = 1 := by omega
      subst e
      obtain ⟨fl', R, V, be', fa', st', w1, w2, w3, w4, w5, w6, w7, w8⟩ := m_pass hg hnv hm hI hφ hM hin cp us h0 hst
      have e2 := w7 hok
      subst e2
      have e3 := w5 rfl
      refine ⟨R, V, be', fa', st', ?_, w2, by rw [e3]; exact hok, w3, w8⟩
      rw [gq_X12_bestRow_1, if_neg (show ¬ nI 1 = 0 from by decide), w1, gq_X12_bestRow_1, if_pos (show nI 0 = 0 from rfl)]
  | j + 1, p, fl, R0, V0, be, fa, st, hp, h0, hd, hf, hfl, hst => by
    by_cases c0 : fl = 0
    · subst c0
      exact ⟨R0, V0, be, fa, st, by rw [gq_X12_bestRow_1, if_pos (show nI 0 = 0 from rfl)], h0, hf rfl, leR.refl R0, hst⟩
    · have e : fl = 1 := by omega
      subst e
      obtain ⟨fl', R, V, be', fa', st', w1, w2, w3, w4, w5, w6, w7, w8⟩ := m_pass hg hnv hm hI hφ hM hin cp us h0 hst
      obtain ⟨R2, V2, be2, fa2, st2, z1, z2, z3, z4, z5⟩ := m_passes hg hnv hm hI hφ hM hin cp us j (p + 1) fl' R V be' fa' st' (by omega) w2 (domR_pass hd w3 (fun u v g hh a ha => hh.elim (fun i hi => w4 i u v g hi a ha))) (fun hz => by
        intro i u v g hA a ha
        have := w5 hz
        rw [this] at ha
        exact w4 i u v g hA a ha) w6 w8
      refine ⟨R2, V2, be2, fa2, st2, ?_, z2, z3, w3.trans z4, z5⟩
      rw [gq_X12_bestRow_1, if_neg (show ¬ nI 1 = 0 from by decide), w1]
      exact z1
/-- who may end a path -/
def endM (bo : Nat → Nat) (le : Nat → Nat) (c : Nat → Bool) (cap : Nat → Nat) (m : Nat) (i : Nat) : Prop := c i = false ∧ cnv le bo c m (bo i) < cap (bo i)
theorem m_last {le bo wt : Nat → Nat} {isL c : Nat → Bool} {cap : Nat → Nat} {m nv : Nat} (hg : gwf le bo wt isL m nv) (hnv : nv ≤ 10) (hm : m ≤ 30) {sd wo inn : Nat → Int32} (hM : fM le bo wt m sd wo) (hin : ∀ i, i < m → inn i = b2i (c i)) {cp us : Nat → Int32} (hcp : ∀ v, v < nv → cap v ≤ 10 ∧ cp v = nI (cap v)) (hus : ∀ v, v < nv → us v = nI (cnv le bo c m v)) {R : Nat → Option Int} {V : Nat → Option Nat} {be fa st : Nat → Int32} (hst : stM m R V be fa st) (hbd : ∀ v x, R v = some x → -400000 ≤ x ∧ x ≤ 12672 ∧ ∃ (k : Nat) (z : Int), k ≤ 29 ∧ x = 64 * z - k) : ∃ r, gn_X12_bestRow_3 (nI m) cp inn sd us wo (-1) 0 be fa st = some (r, be, fa, st) ∧ ((r = -1 ∧ ∀ i x, i < m → endM bo le c cap m i → R i = some x → False) ∨ ∃ l x, l < m ∧ r = nI l ∧ endM bo le c cap m l ∧ R l = some x ∧ ∀ i y, i < m → endM bo le c cap m i → R i = some y → wOf y ≤ wOf x) := by
  have hcl : ∀ v, cnv le bo c m v ≤ m := fun v => ct_le _ m
  obtain ⟨q, h1, h2⟩ := pz_rel0 (fun k (q : Int32) => gn_X12_bestRow_3 (nI m) cp inn sd us wo q (nI k) be fa st) m (fun k q => (q = -1 ∧ ∀ i x, i < k → endM bo le c cap m i → R i = some x → False) ∨ ∃ l x, l < k ∧ q = nI l ∧ endM bo le c cap m l ∧ R l = some x ∧ ∀ i y, i < k → endM bo le c cap m i → R i = some y → wOf y ≤ wOf x) (-1) (Or.inl ⟨rfl, fun i x hi => by omega⟩) (by
    intro k q hk hP
    have gk := hg k hk
    have hMk := hM k hk
    have hsk := hst k hk
    have hcb := hcp _ gk.2.1
    have hub := hus _ gk.2.1
    have i1 : inb (nI k) 30 = true := inb_nI (by omega) (by omega)
    have hroom := m_isRoom (us := us) (cp := cp) (v := bo k) (by omega) hub hcb.2 (by have := hcl (bo k); omega) (by omega)
    have hskip : (∀ x, endM bo le c cap m k → R k = some x → False) → gn_X12_bestRow_3 (nI m) cp inn sd us wo q (nI k) be fa st = gn_X12_bestRow_3 (nI m) cp inn sd us wo q (nI (k + 1)) be fa st := by
      intro hno
      rw [gq_X12_bestRow_3, if_neg (nI_ge hk (by omega)), i1, if_pos rfl, nI_clamp (by omega), hin k hk, nI_1]
      cases ck : c k with
      | true => rw [if_neg (show ¬ b2i true = 0 by decide)]
      | false =>
        rw [if_pos (show b2i false = 0 by decide), if_pos rfl, hsk.2.1]
        cases hRk : R k with
        | none => rw [if_pos (show eF none = 1000000000 from rfl)]
        | some x =>
          have hx := hbd k x hRk
          have hwx : -6300 ≤ wOf x ∧ wOf x ≤ 200 := by unfold wOf; omega
          have hne : ¬ eF (some x) = 1000000000 := by
            show ¬ zI (-(wOf x)) = 1000000000
            rw [far_z, zI_eq (by omega) (by omega) (by omega) (by omega)]; omega
          rw [if_neg hne, pz_2, nI_1, inb_nI (show 2 * k + 1 < 60 by omega) (by omega), if_pos rfl, nI_clamp (by omega), hMk.2.1, hroom, Option.bind_some, decide_eq_false (fun h => hno x ⟨ck, h⟩ hRk), if_neg (by decide)]
    by_cases he : endM bo le c cap m k ∧ ∃ x, R k = some x
    · obtain ⟨he, x, hRk⟩ := he
      have hx := hbd k x hRk
      have hwx : -6300 ≤ wOf x ∧ wOf x ≤ 200 := by unfold wOf; omega
      have hne : ¬ eF (some x) = 1000000000 := by
        show ¬ zI (-(wOf x)) = 1000000000
        rw [far_z, zI_eq (by omega) (by omega) (by omega) (by omega)]; omega
      have hq : gn_X12_bestRow_3 (nI m) cp inn sd us wo q (nI k) be fa st = if q < 0 then gn_X12_bestRow_3 (nI m) cp inn sd us wo (nI k) (nI (k + 1)) be fa st else if inb q 30 = true then (if zI (-(wOf x)) < fa q.toNatClampNeg then gn_X12_bestRow_3 (nI m) cp inn sd us wo (nI k) (nI (k + 1)) be fa st else if zI (-(wOf x)) = fa q.toNatClampNeg then (if st q.toNatClampNeg ≤ zI (64 * wOf x - x) then gn_X12_bestRow_3 (nI m) cp inn sd us wo q (nI (k + 1)) be fa st else gn_X12_bestRow_3 (nI m) cp inn sd us wo (nI k) (nI (k + 1)) be fa st) else gn_X12_bestRow_3 (nI m) cp inn sd us wo q (nI (k + 1)) be fa st) else none := by
        rw [gq_X12_bestRow_3, if_neg (nI_ge hk (by omega)), i1, if_pos rfl, nI_clamp (by omega), hin k hk, nI_1, he.1, if_pos (show b2i false = 0 by decide), if_pos rfl, hsk.2.1, hRk, if_neg hne, pz_2, nI_1, inb_nI (show 2 * k + 1 < 60 by omega) (by omega), if_pos rfl, nI_clamp (by omega), hMk.2.1, hroom, Option.bind_some, decide_eq_true he.2, if_pos rfl, hsk.2.2, hRk]
        cases inb q 30 <;> rfl
      have hnew : (∀ i y, i < k → endM bo le c cap m i → R i = some y → wOf y ≤ wOf x) → ∃ a' : Int32, ((a' = -1 ∧ ∀ i x, i < k + 1 → endM bo le c cap m i → R i = some x → False) ∨ ∃ l x, l < k + 1 ∧ a' = nI l ∧ endM bo le c cap m l ∧ R l = some x ∧ ∀ i y, i < k + 1 → endM bo le c cap m i → R i = some y → wOf y ≤ wOf x) ∧ gn_X12_bestRow_3 (nI m) cp inn sd us wo (nI k) (nI (k + 1)) be fa st = gn_X12_bestRow_3 (nI m) cp inn sd us wo a' (nI (k + 1)) be fa st := by
        intro hh
        refine ⟨nI k, Or.inr ⟨k, x, by omega, rfl, he, hRk, fun i y hi h1 h2 => ?_⟩, rfl⟩
        by_cases e : i = k
        · subst e; rw [hRk] at h2; cases h2; exact Int.le_refl _
        · exact hh i y (by omega) h1 h2
      rcases hP with ⟨p1, p2⟩ | ⟨l, z, l1, l2, l3, l4, l5⟩
      · show ∃ a', _ ∧ gn_X12_bestRow_3 (nI m) cp inn sd us wo q (nI k) be fa st = _
        rw [hq, p1, if_pos (show (-1 : Int32) < 0 by decide)]
        exact hnew (fun i y hi h1 h2 => absurd (p2 i y hi h1 h2) id)
      · have hz := hbd l z l4
        have hwz : -6300 ≤ wOf z ∧ wOf z ≤ 200 := by unfold wOf; omega
        have hsl := hst l (by omega)
        have hold : wOf x ≤ wOf z → ∃ a' : Int32, ((a' = -1 ∧ ∀ i x, i < k + 1 → endM bo le c cap m i → R i = some x → False) ∨ ∃ l x, l < k + 1 ∧ a' = nI l ∧ endM bo le c cap m l ∧ R l = some x ∧ ∀ i y, i < k + 1 → endM bo le c cap m i → R i = some y → wOf y ≤ wOf x) ∧ gn_X12_bestRow_3 (nI m) cp inn sd us wo (nI l) (nI (k + 1)) be fa st = gn_X12_bestRow_3 (nI m) cp inn sd us wo a' (nI (k + 1)) be fa st := by
          intro hh
          refine ⟨nI l, Or.inr ⟨l, z, by omega, rfl, l3, l4, fun i y hi h1 h2 => ?_⟩, rfl⟩
          by_cases e : i = k
          · subst e; rw [hRk] at h2; cases h2; exact hh
          · exact l5 i y (by omega) h1 h2
        show ∃ a', _ ∧ gn_X12_bestRow_3 (nI m) cp inn sd us wo q (nI k) be fa st = _
        rw [hq, l2, if_neg (show ¬ nI l < 0 from by rw [pz_lt0 (by omega)]; exact id), inb_nI (by omega) (by omega), if_pos rfl, nI_clamp (by omega), hsl.2.1, l4]
        show ∃ a', _ ∧ (if zI (-(wOf x)) < zI (-(wOf z)) then _ else if zI (-(wOf x)) = zI (-(wOf z)) then _ else _) = _
        simp only [zI_lt (show -2147483648 ≤ -(wOf x) by omega) (show -(wOf x) < 2147483648 by omega) (show -2147483648 ≤ -(wOf z) by omega) (show -(wOf z) < 2147483648 by omega), zI_eq (show -2147483648 ≤ -(wOf x) by omega) (show -(wOf x) < 2147483648 by omega) (show -2147483648 ≤ -(wOf z) by omega) (show -(wOf z) < 2147483648 by omega)]
        by_cases c1 : -(wOf x) < -(wOf z)
        · rw [if_pos c1]
          exact hnew (fun i y hi h1 h2 => by have := l5 i y hi h1 h2; omega)
        · rw [if_neg c1]
          by_cases c2 : -(wOf x) = -(wOf z)
          · rw [if_pos c2]
            split
            · exact hold (by omega)
            · exact hnew (fun i y hi h1 h2 => by have := l5 i y hi h1 h2; omega)
          · rw [if_neg c2]
            exact hold (by omega)
    · have hno : ∀ x, endM bo le c cap m k → R k = some x → False := fun x h1 h2 => he ⟨h1, x, h2⟩
      refine ⟨q, ?_, hskip hno⟩
      rcases hP with ⟨p1, p2⟩ | ⟨l, z, l1, l2, l3, l4, l5⟩
      · refine Or.inl ⟨p1, fun i x hi h1 h2 => ?_⟩
        by_cases e : i = k
        · subst e; exact hno x h1 h2
        · exact p2 i x (by omega) h1 h2
      · refine Or.inr ⟨l, z, by omega, l2, l3, l4, fun i y hi h1 h2 => ?_⟩
        by_cases e : i = k
        · subst e; exact absurd (hno y h1 h2) id
        · exact l5 i y (by omega) h1 h2)
  refine ⟨q, ?_, h1⟩
  have h3 : gn_X12_bestRow_3 (nI m) cp inn sd us wo (-1) 0 be fa st = gn_X12_bestRow_3 (nI m) cp inn sd us wo q (nI m) be fa st := h2
  rw [h3, gq_X12_bestRow_3, if_pos (nI_le (Nat.le_refl _) (by omega))]
