/-! ===== pure rows: the class's flow of one year ===== -/
def eR : Option Int → Int32
  | none => -1000000
  | some b => zI b
def eV : Option Nat → Int32
  | none => -1
  | some i => nI i
/-- the deals that go, as the class has them -/
def fC (le bo wt : Nat → Nat) (m : Nat) (lf bf wf : Nat → Int32) : Prop := ∀ i, i < m → lf i = nI (le i) ∧ bf i = nI (bo i) ∧ wf i = nI (wt i)
def bdR (R : Nat → Option Int) : Prop := ∀ v a, R v = some a → -2000 ≤ a ∧ a ≤ 198
theorem m1_z : (-1000000 : Int32) = zI (-1000000) := by decide
theorem c_lead {le bo wt : Nat → Nat} {isL : Nat → Bool} {m nv : Nat} (hg : gwf le bo wt isL m nv) (hnv : nv ≤ 10) (hm : m ≤ 30) {lf bf wf : Nat → Int32} (hC : fC le bo wt m lf bf wf) {ch : Nat} (hch : ch < 2 ^ 30) {R : Nat → Option Int} (hR : bdR R) {rc vi : Nat → Int32} (hrc : ∀ v, v < nv → rc v = eR (R v)) {i : Nat} (hi : i < m) : ∃ u v g, arcF le bo wt ch.testBit m i u v g ∧ u < nv ∧ v < nv ∧ u ≠ v ∧ ((okA R u v g ∧ dn_X2_leadAlong (nI ch) bf lf rc vi wf (nI i) = some (false, rc, vi)) ∨ (∃ a, R u = some a ∧ (∀ b, R v = some b → b < a + g) ∧ dn_X2_leadAlong (nI ch) bf lf rc vi wf (nI i) = some (true, upd rc v (zI (a + g)), upd vi v (nI i)))) := by
  have g1 := hg i hi
  have g2 := hg.ne i hi
  have h1 := hC i hi
  have key : ∀ (u v : Nat) (g : Int), u < nv → v < nv → -198 ≤ g → g ≤ 198 → ((okA R u v g ∧ gn_X2_leadAlong_3 bf lf wf (nI i) (nI u) (nI v) (zI g) rc vi = some (false, rc, vi)) ∨ (∃ a, R u = some a ∧ (∀ b, R v = some b → b < a + g) ∧ gn_X2_leadAlong_3 bf lf wf (nI i) (nI u) (nI v) (zI g) rc vi = some (true, upd rc v (zI (a + g)), upd vi v (nI i)))) := by
    intro u v g hu hv hg1 hg2
    rw [gq_X2_leadAlong_3, nI_clamp (by omega), nI_clamp (by omega), hrc u hu, hrc v hv, inb_nI (by omega) (by omega), inb_nI (by omega) (by omega)]
    simp only [if_true]
    cases hRu : R u with
    | none =>
      left
      exact ⟨fun a ha => (by rw [hRu] at ha; cases ha), by show (if (-1000000 : Int32) = (-1000000) then _ else _) = _; rw [if_pos rfl]⟩
    | some a =>
      have ba := hR u a hRu
      have e0 : ¬ eR (some a) = -1000000 := by
        show ¬ zI a = -1000000
        rw [m1_z, zI_eq (by omega) (by omega) (by omega) (by omega)]; omega
      rw [if_neg e0]
      show ((_ ∧ (if eR (R v) < zI a + zI g then _ else _) = _) ∨ _)
      rw [zI_add]
      cases hRv : R v with
      | none =>
        right
        have e1 : eR none < zI (a + g) := by
          show (-1000000 : Int32) < zI (a + g)
          rw [m1_z, zI_lt (by omega) (by omega) (by omega) (by omega)]; omega
        exact ⟨a, rfl, fun b hb => (by cases hb), by
          show (if eR none < zI a + zI g then some (true, upd rc v (zI a + zI g), upd vi v (nI i)) else _) = _
          rw [zI_add, if_pos e1]⟩
      | some b =>
        have bb := hR v b hRv
        have e1 : (eR (some b) < zI (a + g)) = (b < a + g) := zI_lt (by omega) (by omega) (by omega) (by omega)
        by_cases c : b < a + g
        · right
          exact ⟨a, rfl, fun b' hb => (by cases hb; exact c), by
            show (if eR (some b) < zI a + zI g then some (true, upd rc v (zI a + zI g), upd vi v (nI i)) else _) = _
            rw [zI_add, if_pos (by rw [e1]; exact c)]⟩
        · left
          exact ⟨fun a' ha => (by rw [hRu] at ha; cases ha; exact ⟨b, hRv, by omega⟩), by rw [if_neg (by rw [e1]; exact c)]⟩
  unfold dn_X2_leadAlong
  rw [pz_bit (by omega) (by omega)]
  cases hb : ch.testBit i with
  | false =>
    refine ⟨le i, bo i, (wt i : Int), ⟨hi, Or.inl ⟨hb, rfl, rfl, rfl⟩⟩, g1.1, g1.2.1, g2.2.2, ?_⟩
    have e : (if b2i false = 1 then gn_X2_leadAlong_0 bf lf wf (nI i) 1 rc vi else gn_X2_leadAlong_0 bf lf wf (nI i) 0 rc vi) = gn_X2_leadAlong_3 bf lf wf (nI i) (nI (le i)) (nI (bo i)) (zI (wt i : Int)) rc vi := by
      rw [if_neg (by decide), gq_X2_leadAlong_0, if_pos rfl, gq_X2_leadAlong_1, if_pos rfl, gq_X2_leadAlong_2, if_pos rfl, inb_nI (by omega) (by omega), nI_clamp (by omega), h1.1, h1.2.1, h1.2.2, zI_n (n := wt i) (by omega)]
      rfl
    rw [e]
    exact key _ _ _ g1.1 g1.2.1 (by omega) (by omega)
  | true =>
    refine ⟨bo i, le i, -(wt i : Int), ⟨hi, Or.inr ⟨hb, rfl, rfl, rfl⟩⟩, g1.2.1, g1.1, fun x => g2.2.2 x.symm, ?_⟩
    have e : (if b2i true = 1 then gn_X2_leadAlong_0 bf lf wf (nI i) 1 rc vi else gn_X2_leadAlong_0 bf lf wf (nI i) 0 rc vi) = gn_X2_leadAlong_3 bf lf wf (nI i) (nI (bo i)) (nI (le i)) (zI (-(wt i : Int))) rc vi := by
      rw [if_pos (by decide), gq_X2_leadAlong_0, if_neg (show ¬ (1 : Int32) = 0 by decide), gq_X2_leadAlong_1, if_neg (show ¬ (1 : Int32) = 0 by decide), gq_X2_leadAlong_2, if_neg (show ¬ (1 : Int32) = 0 by decide), inb_nI (by omega) (by omega), nI_clamp (by omega), h1.1, h1.2.1, h1.2.2, zI_n (n := wt i) (by omega), zI_neg]
      rfl
    rw [e]
    exact key _ _ _ g1.2.1 g1.1 (by omega) (by omega)
/-- starts -/
def srt (le bo : Nat → Nat) (isL c : Nat → Bool) (cap : Nat → Nat) (m nv : Nat) (v : Nat) (x : Int) : Prop := v < nv ∧ isL v = true ∧ cnv le bo c m v < cap v ∧ x = 0
theorem rI_bd {le bo wt : Nat → Nat} {isL c : Nat → Bool} {cap : Nat → Nat} {m nv : Nat} {φ : Nat → Int} {tt : Int} (hg : gwf le bo wt isL m nv) (hnv : nv ≤ 10) (hI : fInv le bo wt isL c cap m nv φ tt) (hφ : ∀ v, φ v ≤ 198) {R : Nat → Option Int} {V : Nat → Option Nat} (h : rI (arcF le bo wt c m) (srt le bo isL c cap m nv) R V) : bdR R ∧ ∀ v a, R v = some a → a ≤ φ v := by
  have harc := fInv_arc hI
  have hle : ∀ v a, R v = some a → a ≤ φ v := by
    intro v a ha
    obtain ⟨k, f, t, w1, w2⟩ := h.1 v a ha
    rw [← w2]
    exact swk_le (φ := φ) (fun u v g hh => hh.elim (fun i hi => harc i u v g hi)) (fun v x hs => by
      have := (hI.2.2.2.1 v hs.1 hs.2.1).1 hs.2.2.1
      rw [hs.2.2.2]; exact this) w1
  refine ⟨fun v a ha => ⟨?_, Int.le_trans (hle v a ha) (hφ v)⟩, hle⟩
  obtain ⟨k, f, t, w1, w2⟩ := h.1 v a ha
  have hk : k < nv := swk_k (N := nv) (fun u v g hh => hh.elim (fun i hi => by
    have := hg i hi.1
    rcases hi.2 with ⟨_, b2, b3, _⟩ | ⟨_, b2, b3, _⟩
    · rw [b2, b3]; exact ⟨this.1, this.2.1⟩
    · rw [b2, b3]; exact ⟨this.2.1, this.1⟩)) (fun v x hs => hs.1) w1
  have := swk_lo (G := 198) (fun u v g hh => hh.elim (fun i hi => by
    have := hg i hi.1
    rcases hi.2 with ⟨_, _, _, b4⟩ | ⟨_, _, _, b4⟩
    · omega
    · omega)) (fun v x hs => by rw [hs.2.2.2]; exact Int.le_refl 0) w1 k (Nat.le_refl k)
  rw [← w2]
  have : (198 : Int) * (k : Int) ≤ 198 * 9 := by omega
  omega
def okAll (le bo wt : Nat → Nat) (c : Nat → Bool) (m : Nat) (R : Nat → Option Int) : Prop := ∀ i u v g, arcF le bo wt c m i u v g → okA R u v g
theorem arcF_eq {le bo wt : Nat → Nat} {c : Nat → Bool} {m i u v u' v' : Nat} {g g' : Int} (h : arcF le bo wt c m i u v g) (h' : arcF le bo wt c m i u' v' g') : u' = u ∧ v' = v ∧ g' = g := by
  obtain ⟨_, h⟩ := h
  obtain ⟨_, h'⟩ := h'
  rcases h with ⟨a1, a2, a3, a4⟩ | ⟨a1, a2, a3, a4⟩ <;> rcases h' with ⟨b1, b2, b3, b4⟩ | ⟨b1, b2, b3, b4⟩
  · exact ⟨by omega, by omega, by omega⟩
  · rw [a1] at b1; cases b1
  · rw [a1] at b1; cases b1
  · exact ⟨by omega, by omega, by omega⟩
/-- one pass -/
theorem c_pass {le bo wt : Nat → Nat} {isL : Nat → Bool} {cap : Nat → Nat} {m nv : Nat} {φ : Nat → Int} {tt : Int} (hg : gwf le bo wt isL m nv) (hnv : nv ≤ 10) (hm : m ≤ 30) {lf bf wf : Nat → Int32} (hC : fC le bo wt m lf bf wf) {ch : Nat} (hch : ch < 2 ^ 30) (hI : fInv le bo wt isL ch.testBit cap m nv φ tt) (hφ : ∀ v, φ v ≤ 198) (rm : Nat → Int32) (p1 p2 v4 : Int32) {R0 : Nat → Option Int} {V0 : Nat → Option Nat} (h0 : rI (arcF le bo wt ch.testBit m) (srt le bo isL ch.testBit cap m nv) R0 V0) {rc vi : Nat → Int32} (hrc : ∀ v, v < nv → rc v = eR (R0 v)) (hvi : ∀ v, v < nv → vi v = eV (V0 v)) :
    ∃ (fl : Nat) (R : Nat → Option Int) (V : Nat → Option Nat) (rc' vi' : Nat → Int32), gn_X2_spread_3 (nI m) (nI ch) bf lf rm wf p1 p2 0 v4 0 rc vi = gn_X2_spread_1 (nI m) (nI ch) bf lf rm wf p1 p2 (nI fl) (v4 + 1) rc' vi' ∧ rI (arcF le bo wt ch.testBit m) (srt le bo isL ch.testBit cap m nv) R V ∧ leR R0 R ∧ (∀ i u v g, arcF le bo wt ch.testBit m i u v g → ∀ a, R0 u = some a → ∃ b, R v = some b ∧ a + g ≤ b) ∧ (fl = 0 → R = R0) ∧ fl ≤ 1 ∧ (∀ v, v < nv → rc' v = eR (R v)) ∧ ∀ v, v < nv → vi' v = eV (V v) := by
  have harc := fInv_arc hI
  obtain ⟨q, h1, h2⟩ := pz_rel0 (fun k (q : Nat × (Nat → Int32) × (Nat → Int32)) => gn_X2_spread_3 (nI m) (nI ch) bf lf rm wf p1 p2 (nI q.1) v4 (nI k) q.2.1 q.2.2) m (fun k q => ∃ R V, rI (arcF le bo wt ch.testBit m) (srt le bo isL ch.testBit cap m nv) R V ∧ leR R0 R ∧ (∀ i u v g, i < k → arcF le bo wt ch.testBit m i u v g → ∀ a, R0 u = some a → ∃ b, R v = some b ∧ a + g ≤ b) ∧ (q.1 = 0 → R = R0) ∧ q.1 ≤ 1 ∧ (∀ v, v < nv → q.2.1 v = eR (R v)) ∧ ∀ v, v < nv → q.2.2 v = eV (V v)) (0, rc, vi) ⟨R0, V0, h0, leR.refl R0, fun i u v g hi => by omega, fun _ => rfl, Nat.zero_le 1, hrc, hvi⟩ (by
    rintro k ⟨fl, rc, vi⟩ hk ⟨R, V, r1, r2, r3, r4, r5, r6, r7⟩
    obtain ⟨hbd, hle⟩ := rI_bd hg hnv hI hφ r1
    obtain ⟨u, v, g, ha, hu, hv, hne, hx⟩ := c_lead hg hnv hm hC hch hbd (rc := rc) (vi := vi) r6 hk
    have hst : gn_X2_spread_3 (nI m) (nI ch) bf lf rm wf p1 p2 (nI fl) v4 (nI k) rc vi = Option.bind (dn_X2_leadAlong (nI ch) bf lf rc vi wf (nI k)) fun q13 => if q13.1 = true then gn_X2_spread_3 (nI m) (nI ch) bf lf rm wf p1 p2 1 v4 (nI (k + 1)) q13.2.1 q13.2.2 else gn_X2_spread_3 (nI m) (nI ch) bf lf rm wf p1 p2 (nI fl) v4 (nI (k + 1)) q13.2.1 q13.2.2 := by
      rw [gq_X2_spread_3, if_neg (nI_ge hk (by omega)), ← nI_1]
    rcases hx with ⟨hok, hx⟩ | ⟨a, hRu, hlt, hx⟩
    · refine ⟨(fl, rc, vi), ⟨R, V, r1, r2, fun i u' v' g' hi hA => ?_, r4, r5, r6, r7⟩, ?_⟩
      · by_cases e : i = k
        · subst e
          obtain ⟨e1, e2, e3⟩ := arcF_eq ha hA
          subst e1; subst e2; subst e3
          exact okA_le r2 hok (leR.refl R)
        · exact r3 i u' v' g' (by omega) hA
      · show gn_X2_spread_3 _ _ _ _ _ _ _ _ _ _ _ _ _ = gn_X2_spread_3 _ _ _ _ _ _ _ _ _ _ _ _ _
        rw [hst, hx]; rfl
    · have hl2 : leR R (rset R v (a + g)) := leR_set hlt
      refine ⟨(1, upd rc v (zI (a + g)), upd vi v (nI k)), ⟨rset R v (a + g), fun w => if w = v then some k else V w, rI_set (φ := φ) harc r1 ha hRu hne hlt, r2.trans hl2, fun i u' v' g' hi hA => ?_, fun h => (by cases h), Nat.le_refl 1, fun w hw => ?_, fun w hw => ?_⟩, ?_⟩
      · by_cases e : i = k
        · subst e
          obtain ⟨e1, e2, e3⟩ := arcF_eq ha hA
          subst e1; subst e2; subst e3
          exact okA_le (r2.trans hl2) (okA_set hRu hne) (leR.refl _)
        · intro a' ha'
          obtain ⟨b, e1, l1⟩ := r3 i u' v' g' (by omega) hA a' ha'
          obtain ⟨b', e2, l2⟩ := hl2 v' b e1
          exact ⟨b', e2, by omega⟩
      · show upd rc v (zI (a + g)) w = _
        by_cases e : w = v
        · subst e; rw [pk_us, rset_s]; rfl
        · rw [pk_un e, rset_o e]; exact r6 w hw
      · show upd vi v (nI k) w = eV (if w = v then some k else V w)
        by_cases e : w = v
        · subst e; rw [pk_us, if_pos rfl]; rfl
        · rw [pk_un e, if_neg e]; exact r7 w hw
      · show gn_X2_spread_3 _ _ _ _ _ _ _ _ _ _ _ _ _ = gn_X2_spread_3 _ _ _ _ _ _ _ _ _ _ _ _ _
        rw [hst, hx]; rfl)
  obtain ⟨R, V, r1, r2, r3, r4, r5, r6, r7⟩ := h1
  refine ⟨q.1, R, V, q.2.1, q.2.2, ?_, r1, r2, fun i u v g hA => r3 i u v g hA.1 hA, r4, r5, r6, r7⟩
  have h3 : gn_X2_spread_3 (nI m) (nI ch) bf lf rm wf p1 p2 0 v4 0 rc vi = gn_X2_spread_3 (nI m) (nI ch) bf lf rm wf p1 p2 (nI q.1) v4 (nI m) q.2.1 q.2.2 := h2
  rw [h3, gq_X2_spread_3, if_pos (nI_le (Nat.le_refl _) (by omega))]
theorem c_passes {le bo wt : Nat → Nat} {isL : Nat → Bool} {cap : Nat → Nat} {m nv : Nat} {φ : Nat → Int} {tt : Int} (hg : gwf le bo wt isL m nv) (hnv : nv ≤ 10) (hm : m ≤ 30) {lf bf wf : Nat → Int32} (hC : fC le bo wt m lf bf wf) {ch : Nat} (hch : ch < 2 ^ 30) (hI : fInv le bo wt isL ch.testBit cap m nv φ tt) (hφ : ∀ v, φ v ≤ 198) (rm : Nat → Int32) (p1 p2 : Int32) : ∀ (j p fl : Nat) (R0 : Nat → Option Int) (V0 : Nat → Option Nat) (rc vi : Nat → Int32), p + j = 11 → rI (arcF le bo wt ch.testBit m) (srt le bo isL ch.testBit cap m nv) R0 V0 → domR (fun u v g => ∃ i, arcF le bo wt ch.testBit m i u v g) (srt le bo isL ch.testBit cap m nv) p R0 → (fl = 0 → okAll le bo wt ch.testBit m R0) → fl ≤ 1 → (∀ v, v < nv → rc v = eR (R0 v)) → (∀ v, v < nv → vi v = eV (V0 v)) →
    ∃ R V rc' vi', gn_X2_spread_1 (nI m) (nI ch) bf lf rm wf p1 p2 (nI fl) (nI p) rc vi = some (rc', vi') ∧ rI (arcF le bo wt ch.testBit m) (srt le bo isL ch.testBit cap m nv) R V ∧ okAll le bo wt ch.testBit m R ∧ leR R0 R ∧ (∀ v, v < nv → rc' v = eR (R v)) ∧ ∀ v, v < nv → vi' v = eV (V v)
  | 0, p, fl, R0, V0, rc, vi, hp, h0, hd, hf, hfl, hrc, hvi => by
    refine ⟨R0, V0, rc, vi, ?_, h0, fun i u v g hA => ?_, leR.refl R0, hrc, hvi⟩
    · rw [gq_X2_spread_1, if_pos (show (10 : Int32) < nI p from nI_lt (a := 10) (by omega) (by omega))]
    · exact relax_end (φ := φ) (N := nv) (fun u v g hh => hh.elim (fun i hi => fInv_arc hI i u v g hi)) (fun u v g hh => hh.elim (fun i hi => by
        have := hg i hi.1
        rcases hi.2 with ⟨_, b2, b3, _⟩ | ⟨_, b2, b3, _⟩
        · rw [b2, b3]; exact ⟨this.1, this.2.1⟩
        · rw [b2, b3]; exact ⟨this.2.1, this.1⟩)) (fun v x hs => hs.1) (by omega) hd (leR.refl R0) h0.1 ⟨i, hA⟩
  | j + 1, p, fl, R0, V0, rc, vi, hp, h0, hd, hf, hfl, hrc, hvi => by
    have hlt : ¬ (10 : Int32) < nI p := nI_nlt (b := p) (a := 10) (by omega) (by omega)
    by_cases c : fl = 0
    · subst c
      refine ⟨R0, V0, rc, vi, ?_, h0, hf rfl, leR.refl R0, hrc, hvi⟩
      rw [gq_X2_spread_1, if_neg hlt, if_pos (show nI 0 = 0 from rfl)]
    · have e : fl = 1 := by omega
      subst e
      obtain ⟨fl', R, V, rc', vi', w1, w2, w3, w4, w5, w6, w7, w8⟩ := c_pass hg hnv hm hC hch hI hφ rm p1 p2 (nI p) h0 hrc hvi
      obtain ⟨R2, V2, rc2, vi2, z1, z2, z3, z4, z5, z6⟩ := c_passes hg hnv hm hC hch hI hφ rm p1 p2 j (p + 1) fl' R V rc' vi' (by omega) w2 (domR_pass hd w3 (fun u v g hh a ha => hh.elim (fun i hi => w4 i u v g hi a ha))) (fun hz => by
        intro i u v g hA a ha
        have := w5 hz
        rw [this] at ha
        exact w4 i u v g hA a ha) w6 w7 w8
      refine ⟨R2, V2, rc2, vi2, ?_, z2, z3, w3.trans z4, z5, z6⟩
      rw [gq_X2_spread_1, if_neg hlt, if_neg (show ¬ nI 1 = 0 from by decide), w1, nI_1]
      exact z1
theorem c_spread {le bo wt : Nat → Nat} {cap : Nat → Nat} {m nv P : Nat} {φ : Nat → Int} {tt : Int} (hP : P < 2 ^ 10) (hg : gwf le bo wt P.testBit m nv) (hnv : nv ≤ 10) (hm : m ≤ 30) {lf bf wf rm : Nat → Int32} (hC : fC le bo wt m lf bf wf) {ch : Nat} (hch : ch < 2 ^ 30) (hI : fInv le bo wt P.testBit ch.testBit cap m nv φ tt) (hφ : ∀ v, φ v ≤ 198) (hrm : ∀ v, v < nv → cap v ≤ 10 ∧ rm v = nI (cap v - cnv le bo ch.testBit m v)) (rc vi : Nat → Int32) :
    ∃ R V rc' vi', dn_X2_spread (nI m) (nI ch) bf lf rc rm vi wf (nI nv) (nI P) = some (rc', vi') ∧ rI (arcF le bo wt ch.testBit m) (srt le bo P.testBit ch.testBit cap m nv) R V ∧ okAll le bo wt ch.testBit m R ∧ (∀ v, v < nv → P.testBit v = true → cnv le bo ch.testBit m v < cap v → ∃ b, R v = some b ∧ 0 ≤ b) ∧ (∀ v, v < nv → rc' v = eR (R v)) ∧ ∀ v, v < nv → vi' v = eV (V v) := by
  have key : ∃ q : (Nat → Int32) × (Nat → Int32), (∀ v, v < nv → q.1 v = eR (if v < nv ∧ P.testBit v = true ∧ cnv le bo ch.testBit m v < cap v then some 0 else none) ∧ q.2 v = -1) ∧ dn_X2_spread (nI m) (nI ch) bf lf rc rm vi wf (nI nv) (nI P) = gn_X2_spread_1 (nI m) (nI ch) bf lf rm wf (nI nv) (nI P) 1 0 q.1 q.2 := by
    obtain ⟨q, h1, h2⟩ := pz_rel0 (fun k (q : (Nat → Int32) × (Nat → Int32)) => gn_X2_spread_0 (nI m) (nI ch) bf lf rm wf (nI nv) (nI P) (nI k) q.1 q.2) nv (fun k q => ∀ v, v < k → q.1 v = eR (if v < nv ∧ P.testBit v = true ∧ cnv le bo ch.testBit m v < cap v then some 0 else none) ∧ q.2 v = -1) (rc, vi) (fun v hv => by omega) (by
      rintro k ⟨rc, vi⟩ hk hq
      have hr := hrm k hk
      have hc := hI.2.2.1 k hk
      have hst : gn_X2_spread_0 (nI m) (nI ch) bf lf rm wf (nI nv) (nI P) (nI k) rc vi = gn_X2_spread_0 (nI m) (nI ch) bf lf rm wf (nI nv) (nI P) (nI (k + 1)) (upd rc k (eR (if k < nv ∧ P.testBit k = true ∧ cnv le bo ch.testBit m k < cap k then some 0 else none))) (upd vi k (-1)) := by
        rw [gq_X2_spread_0, if_neg (nI_ge hk (by omega)), pz_bit (by omega) (by omega), nI_clamp (by omega), hr.2, inb_nI (by omega) (by omega), gq_X2_spread_2, gq_X2_spread_2, inb_nI (by omega) (by omega), nI_clamp (by omega), ← nI_1]
        simp only [pz_le0 (show cap k - cnv le bo ch.testBit m k < 2 ^ 31 by omega)]
        cases c1 : P.testBit k with
        | false =>
          rw [if_neg (show ¬ (k < nv ∧ false = true ∧ cnv le bo ch.testBit m k < cap k) from fun x => by cases x.2.1)]
          rfl
        | true =>
          by_cases c2 : cnv le bo ch.testBit m k < cap k
          · have ex : (if k < nv ∧ true = true ∧ cnv le bo ch.testBit m k < cap k then some (0 : Int) else none) = some 0 := if_pos ⟨hk, rfl, c2⟩
            rw [if_neg (show ¬ cap k - cnv le bo ch.testBit m k = 0 by omega), ex]
            rfl
          · have ex : (if k < nv ∧ true = true ∧ cnv le bo ch.testBit m k < cap k then some (0 : Int) else none) = none := if_neg (fun x => c2 x.2.2)
            rw [if_pos (show cap k - cnv le bo ch.testBit m k = 0 by omega), ex]
            rfl
      refine ⟨(upd rc k (eR (if k < nv ∧ P.testBit k = true ∧ cnv le bo ch.testBit m k < cap k then some 0 else none)), upd vi k (-1)), fun v hv => ?_, hst⟩
      show upd rc k _ v = _ ∧ upd vi k (-1) v = -1
      by_cases e : v = k
      · subst e; rw [pk_us, pk_us]; exact ⟨rfl, rfl⟩
      · rw [pk_un e, pk_un e]; exact hq v (by omega))
    refine ⟨q, h1, ?_⟩
    have h3 : dn_X2_spread (nI m) (nI ch) bf lf rc rm vi wf (nI nv) (nI P) = gn_X2_spread_0 (nI m) (nI ch) bf lf rm wf (nI nv) (nI P) (nI nv) q.1 q.2 := h2
    rw [h3, gq_X2_spread_0, if_pos (nI_le (Nat.le_refl _) (by omega))]
  obtain ⟨q, h1, h2⟩ := key
  have hr0 : ∀ v x, (if v < nv ∧ P.testBit v = true ∧ cnv le bo ch.testBit m v < cap v then some (0 : Int) else none) = some x → srt le bo P.testBit ch.testBit cap m nv v x := by
    intro v x hx
    by_cases c : v < nv ∧ P.testBit v = true ∧ cnv le bo ch.testBit m v < cap v
    · rw [if_pos c] at hx
      cases hx
      exact ⟨c.1, c.2.1, c.2.2, rfl⟩
    · rw [if_neg c] at hx; cases hx
  have hS0 : ∀ v x, srt le bo P.testBit ch.testBit cap m nv v x → (if v < nv ∧ P.testBit v = true ∧ cnv le bo ch.testBit m v < cap v then some (0 : Int) else none) = some x := by
    intro v x hx
    rw [if_pos ⟨hx.1, hx.2.1, hx.2.2.1⟩, hx.2.2.2]
  have hns : ∀ v, (if v < nv ∧ P.testBit v = true ∧ cnv le bo ch.testBit m v < cap v then some (0 : Int) else none) = none ∨ ∃ x, srt le bo P.testBit ch.testBit cap m nv v x ∧ (if v < nv ∧ P.testBit v = true ∧ cnv le bo ch.testBit m v < cap v then some (0 : Int) else none) = some x := by
    intro v
    cases hx : (if v < nv ∧ P.testBit v = true ∧ cnv le bo ch.testBit m v < cap v then some (0 : Int) else none) with
    | none => exact Or.inl rfl
    | some x => exact Or.inr ⟨x, hr0 v x hx, rfl⟩
  obtain ⟨R, V, rc', vi', z1, z2, z3, z4, z5, z6⟩ := c_passes hg hnv hm hC hch hI hφ rm (nI nv) (nI P) 11 0 1 (fun v => if v < nv ∧ P.testBit v = true ∧ cnv le bo ch.testBit m v < cap v then some 0 else none) (fun _ => none) q.1 q.2 rfl ⟨fun v x hx => ⟨0, fun _ => v, fun _ => x, ⟨hr0 v x hx, rfl, fun p hp => by omega, fun p q _ _ => by omega, fun p _ => ⟨x, hx, Int.le_refl x⟩⟩, rfl⟩, fun _ => 0, 1, fun v => ⟨Nat.one_pos, fun _ => hns v, fun i hi => by cases hi⟩⟩ (fun k' hk' v x hw => by
      have : k' = 0 := by omega
      subst this
      exact ⟨x, hS0 v x hw, Int.le_refl x⟩) (fun h => by cases h) (Nat.le_refl 1) (fun v hv => (h1 v hv).1) (fun v hv => (h1 v hv).2)
  refine ⟨R, V, rc', vi', by rw [h2]; exact z1, z2, z3, fun v hv hL hr => ?_, z5, z6⟩
  obtain ⟨b, e, l⟩ := z4 v 0 (hS0 v 0 ⟨hv, hL, hr, rfl⟩)
  exact ⟨b, e, l⟩
