/-! ===== pure rows: the class's GAIN ===== -/
theorem c_bestEnd {le bo wt : Nat → Nat} {cap : Nat → Nat} {m nv P : Nat} {φ : Nat → Int} {tt : Int} (hP : P < 2 ^ 10) (hnv : nv ≤ 10) {ch : Nat} (hI : fInv le bo wt P.testBit ch.testBit cap m nv φ tt) {R : Nat → Option Int} (hR : bdR R) {rc rm : Nat → Int32} (hrm : ∀ v, v < nv → cap v ≤ 10 ∧ rm v = nI (cap v - cnv le bo ch.testBit m v)) (hrc : ∀ v, v < nv → rc v = eR (R v)) :
    ∃ r, dn_X2_bestEnd rc rm (nI nv) (nI P) = some r ∧ ((r = -1 ∧ ∀ v a, v < nv → P.testBit v = false → cnv le bo ch.testBit m v < cap v → R v = some a → a ≤ 0) ∨ ∃ v D, v < nv ∧ r = nI v ∧ P.testBit v = false ∧ cnv le bo ch.testBit m v < cap v ∧ R v = some D ∧ 0 < D ∧ ∀ w a, w < nv → P.testBit w = false → cnv le bo ch.testBit m w < cap w → R w = some a → a ≤ D) := by
  obtain ⟨q, h1, h2⟩ := pz_rel0 (fun k (q : Int32 × Int32) => gn_X2_bestEnd_0 rc rm (nI nv) (nI P) q.1 q.2 (nI k)) nv (fun k q => ∃ D : Int, 0 ≤ D ∧ D ≤ 198 ∧ q.2 = zI D ∧ (∀ w a, w < k → P.testBit w = false → cnv le bo ch.testBit m w < cap w → R w = some a → a ≤ D) ∧ ((q.1 = -1 ∧ D = 0) ∨ ∃ v, v < k ∧ q.1 = nI v ∧ P.testBit v = false ∧ cnv le bo ch.testBit m v < cap v ∧ R v = some D ∧ 0 < D)) (-1, 0) ⟨0, by omega, by omega, rfl, fun w a hw => by omega, Or.inl ⟨rfl, rfl⟩⟩ (by
    rintro k ⟨e, mo⟩ hk ⟨D, d1, d2, d3, d4, d5⟩
    have hr := hrm k hk
    have hc := hI.2.2.1 k hk
    have d3' : mo = zI D := d3
    have hst : gn_X2_bestEnd_0 rc rm (nI nv) (nI P) e mo (nI k) = if P.testBit k = true then gn_X2_bestEnd_0 rc rm (nI nv) (nI P) e mo (nI (k + 1)) else if cap k - cnv le bo ch.testBit m k = 0 then gn_X2_bestEnd_0 rc rm (nI nv) (nI P) e mo (nI (k + 1)) else if eR (R k) ≤ mo then gn_X2_bestEnd_0 rc rm (nI nv) (nI P) e mo (nI (k + 1)) else gn_X2_bestEnd_0 rc rm (nI nv) (nI P) (nI k) (eR (R k)) (nI (k + 1)) := by
      rw [gq_X2_bestEnd_0, if_neg (nI_ge hk (by omega)), pz_bit (by omega) (by omega), gq_X2_bestEnd_1, gq_X2_bestEnd_1, inb_nI (by omega) (by omega), nI_clamp (by omega), hr.2, hrc k hk, nI_1]
      simp only [pz_le0 (show cap k - cnv le bo ch.testBit m k < 2 ^ 31 by omega)]
      cases P.testBit k <;> rfl
    have stay : (∀ a, P.testBit k = false → cnv le bo ch.testBit m k < cap k → R k = some a → a ≤ D) → ∃ D : Int, 0 ≤ D ∧ D ≤ 198 ∧ (e, mo).2 = zI D ∧ (∀ w a, w < k + 1 → P.testBit w = false → cnv le bo ch.testBit m w < cap w → R w = some a → a ≤ D) ∧ (((e, mo).1 = -1 ∧ D = 0) ∨ ∃ v, v < k + 1 ∧ (e, mo).1 = nI v ∧ P.testBit v = false ∧ cnv le bo ch.testBit m v < cap v ∧ R v = some D ∧ 0 < D) := by
      intro hh
      refine ⟨D, d1, d2, d3, fun w a hw => ?_, ?_⟩
      · by_cases e1 : w = k
        · subst e1; exact hh a
        · exact d4 w a (by omega)
      · rcases d5 with d5 | ⟨v, v1, v2⟩
        · exact Or.inl d5
        · exact Or.inr ⟨v, by omega, v2⟩
    cases c1 : P.testBit k with
    | true =>
      refine ⟨(e, mo), stay (fun a h => by rw [c1] at h; cases h), ?_⟩
      show gn_X2_bestEnd_0 _ _ _ _ _ _ _ = gn_X2_bestEnd_0 _ _ _ _ _ _ _
      rw [hst, c1]; rfl
    | false =>
      rw [c1] at hst
      by_cases c2 : cap k - cnv le bo ch.testBit m k = 0
      · refine ⟨(e, mo), stay (fun a _ h => by omega), ?_⟩
        show gn_X2_bestEnd_0 _ _ _ _ _ _ _ = gn_X2_bestEnd_0 _ _ _ _ _ _ _
        rw [hst, if_neg (by decide), if_pos c2]
      · cases hRk : R k with
        | none =>
          have : eR (R k) ≤ mo := by
            rw [hRk, d3']
            show (-1000000 : Int32) ≤ zI D
            rw [m1_z, zI_le (by omega) (by omega) (by omega) (by omega)]; omega
          refine ⟨(e, mo), stay (fun a _ _ h => by rw [hRk] at h; cases h), ?_⟩
          show gn_X2_bestEnd_0 _ _ _ _ _ _ _ = gn_X2_bestEnd_0 _ _ _ _ _ _ _
          rw [hst, if_neg (by decide), if_neg c2, if_pos this]
        | some a =>
          have ba := hR k a hRk
          have e1 : (eR (R k) ≤ mo) = (a ≤ D) := by
            rw [hRk, d3']
            exact zI_le (by omega) (by omega) (by omega) (by omega)
          by_cases c3 : a ≤ D
          · refine ⟨(e, mo), stay (fun a' _ _ h => by rw [hRk] at h; cases h; exact c3), ?_⟩
            show gn_X2_bestEnd_0 _ _ _ _ _ _ _ = gn_X2_bestEnd_0 _ _ _ _ _ _ _
            rw [hst, if_neg (by decide), if_neg c2, if_pos (by rw [e1]; exact c3)]
          · refine ⟨(nI k, eR (R k)), ⟨a, by omega, by omega, by rw [hRk]; rfl, fun w a' hw h1 h2 h3 => ?_, Or.inr ⟨k, by omega, rfl, c1, by omega, hRk, by omega⟩⟩, ?_⟩
            · by_cases e2 : w = k
              · subst e2; rw [hRk] at h3; cases h3; exact Int.le_refl a
              · have := d4 w a' (by omega) h1 h2 h3
                omega
            · show gn_X2_bestEnd_0 _ _ _ _ _ _ _ = gn_X2_bestEnd_0 _ _ _ _ _ _ _
              rw [hst, if_neg (by decide), if_neg c2, if_neg (by rw [e1]; exact c3)])
  obtain ⟨D, d1, d2, d3, d4, d5⟩ := h1
  refine ⟨q.1, ?_, ?_⟩
  · have h3 : dn_X2_bestEnd rc rm (nI nv) (nI P) = gn_X2_bestEnd_0 rc rm (nI nv) (nI P) q.1 q.2 (nI nv) := h2
    rw [h3, gq_X2_bestEnd_0, if_pos (nI_le (Nat.le_refl _) (by omega))]
  · rcases d5 with ⟨d5, d6⟩ | ⟨v, v1, v2, v3, v4, v5, v6⟩
    · subst d6; exact Or.inl ⟨d5, d4⟩
    · exact Or.inr ⟨v, D, v1, v2, v3, v4, v5, v6, d4⟩
theorem pz_xorb30 {P p : Nat} (hP : P < 2 ^ 30) (hp : p < 30) : P ^^^ 2 ^ p < 2 ^ 30 := Nat.xor_lt_two_pow hP (pz_p2 hp)
theorem c_turnPath {le bo wt : Nat → Nat} {isL : Nat → Bool} {m nv : Nat} (hg : gwf le bo wt isL m nv) (hnv : nv ≤ 10) (hm : m ≤ 30) {lf bf wf : Nat → Int32} (hC : fC le bo wt m lf bf wf) {ch : Nat} (hch : ch < 2 ^ 30) {k : Nat} {f e : Nat → Nat} {t : Nat → Int} (hk : k ≤ 10) (hp : ∀ p, p < k → arcF le bo wt ch.testBit m (e p) (f p) (f (p + 1)) (t (p + 1) - t p)) (hd : ∀ p q, p < q → q < k → e p ≠ e q) (hf : ∀ p, p ≤ k → f p < nv) {vi : Nat → Int32} (hv : ∀ p, p < k → vi (f (p + 1)) = nI (e p)) (hv0 : vi (f 0) = -1) (rm : Nat → Int32) : ∃ ch', ch' < 2 ^ 30 ∧ (∀ i, ch'.testBit i = tgl ch.testBit e 0 k i) ∧ dn_X2_turnPath (nI ch) bf lf rm vi (nI (f k)) = some (nI ch', upd (upd rm (f 0) (rm (f 0) - 1)) (f k) ((upd rm (f 0) (rm (f 0) - 1)) (f k) - 1)) := by
  obtain ⟨ch', h1, h2⟩ := pz_rel0 (fun j (c : Nat) => gn_X2_turnPath_0 bf lf vi (nI (f k)) (nI (f (k - j))) (nI j) (nI c) rm) k (fun j c => c < 2 ^ 30 ∧ ∀ i, c.testBit i = tgl ch.testBit e (k - j) k i) ch ⟨hch, fun i => by rw [Nat.sub_zero, tgl_0]⟩ (by
    rintro j c hj ⟨hc, hb⟩
    obtain ⟨p, hpj⟩ : ∃ p, k - j = p + 1 := ⟨k - j - 1, by omega⟩
    have hp1 : k - (j + 1) = p := by omega
    have ha := hp p (by omega)
    have hvp := hv p (by omega)
    have hfp := hf p (by omega)
    have hfp1 := hf (p + 1) (by omega)
    have gi := hg (e p) ha.1
    have hC1 := hC (e p) ha.1
    have hm1 := ha.1
    refine ⟨c ^^^ 2 ^ e p, ⟨pz_xorb30 hc (by omega), fun i => ?_⟩, ?_⟩
    · rw [hp1, tgl_lo hd (by omega) i, Nat.testBit_xor, hb i, hpj, Nat.testBit_two_pow]
      by_cases c1 : i = e p
      · subst c1; simp
      · rw [if_neg c1, show decide (e p = i) = false from decide_eq_false (fun x => c1 x.symm)]; simp
    · show gn_X2_turnPath_0 bf lf vi (nI (f k)) (nI (f (k - j))) (nI j) (nI c) rm = gn_X2_turnPath_0 bf lf vi (nI (f k)) (nI (f (k - (j + 1)))) (nI (j + 1)) (nI (c ^^^ 2 ^ e p)) rm
      rw [hp1, hpj, gq_X2_turnPath_0, if_neg (show ¬ (10 : Int32) < nI j from nI_nlt (b := j) (a := 10) (by omega) (by omega)), nI_clamp (by omega), hvp, if_neg (show ¬ nI (e p) = -1 from fun x => by rw [pz_n0 (by omega)] at x; exact x), inb_nI (by omega) (by omega), inb_nI (by omega) (by omega), nI_clamp (by omega), hC1.1, hC1.2.1, pz_1shl (by omega), pz_xor, ← nI_1]
      simp only [if_true]
      have hne := (hg.ne (e p) ha.1).2.2
      rcases ha.2 with ⟨b1, b2, b3, b4⟩ | ⟨b1, b2, b3, b4⟩
      · rw [if_neg (show ¬ nI (le (e p)) = nI (f (p + 1)) from by rw [pz_eq (by omega) (by omega)]; omega), b2]
      · rw [if_pos (show nI (le (e p)) = nI (f (p + 1)) from by rw [b3]), b2])
  refine ⟨ch', h1.1, fun i => ?_, ?_⟩
  · have := h1.2 i
    rw [Nat.sub_self] at this; exact this
  · have h3 : dn_X2_turnPath (nI ch) bf lf rm vi (nI (f k)) = gn_X2_turnPath_0 bf lf vi (nI (f k)) (nI (f (k - k))) (nI k) (nI ch') rm := by
      have := h2
      rw [Nat.sub_zero] at this
      exact this
    have hf0 := hf 0 (by omega)
    have hfk := hf k (by omega)
    have h4 : gn_X2_turnPath_1 bf lf vi (nI (f k)) (nI (f 0)) (nI ch') rm = some (nI ch', upd (upd rm (f 0) (rm (f 0) - 1)) (f k) ((upd rm (f 0) (rm (f 0) - 1)) (f k) - 1)) := by
      rw [gq_X2_turnPath_1, inb_nI (by omega) (by omega), inb_nI (by omega) (by omega), nI_clamp (by omega), nI_clamp (by omega)]
      rfl
    rw [h3, Nat.sub_self, gq_X2_turnPath_0, nI_clamp (by omega), hv0, if_pos rfl, h4, inb_nI (by omega) (by omega)]
    split <;> rfl
theorem wsm_le {le bo wt : Nat → Nat} {isL : Nat → Bool} {m nv : Nat} (hg : gwf le bo wt isL m nv) (c : Nat → Bool) : wsm wt c m ≤ 198 * m := sm_le _ 198 m (fun k hk => by
  show (if c k = true then wt k else 0) ≤ 198
  have := (hg k hk).2.2.2.2
  split <;> omega)
theorem c_paths {le bo wt : Nat → Nat} {cap : Nat → Nat} {m nv P : Nat} (hP : P < 2 ^ 10) (hg : gwf le bo wt P.testBit m nv) (hnv : nv ≤ 10) (hm : m ≤ 30) {lf bf wf : Nat → Int32} (hC : fC le bo wt m lf bf wf) : ∀ (j q ch : Nat) (φ : Nat → Int) (tt : Int) (rm rc vi : Nat → Int32), q + j = m → ch < 2 ^ 30 → fInv le bo wt P.testBit ch.testBit cap m nv φ tt → (∀ v, φ v ≤ 198) → 0 ≤ tt → ct ch.testBit m = q → (∀ v, v < nv → cap v ≤ 10 ∧ rm v = nI (cap v - cnv le bo ch.testBit m v)) → ∃ o, gn_X2_gainOfYear_0 (nI m) bf lf wf (nI nv) (nI P) (nI (wsm wt ch.testBit m)) (nI q) (nI ch) rc vi rm = some o ∧ o.1 = nI (optN le bo wt m cap)
  | 0, q, ch, φ, tt, rm, rc, vi, hq, hch, hI, hφ, ht, hct, hrm => by
    have e : q = m := by omega
    subst e
    rw [gq_X2_gainOfYear_0, if_pos (nI_le (Nat.le_refl _) (by omega))]
    refine ⟨_, rfl, ?_⟩
    show nI (wsm wt ch.testBit q) = _
    rw [opt_all hg.ne (ct_full q hct) (fun v hv => hI.2.2.1 v hv)]
  | j + 1, q, ch, φ, tt, rm, rc, vi, hq, hch, hI, hφ, ht, hct, hrm => by
    obtain ⟨R, V, rc', vi', z1, z2, z3, z4, z5, z6⟩ := c_spread hP hg hnv hm hC hch hI hφ hrm rc vi
    obtain ⟨hbd, hle⟩ := rI_bd hg hnv hI hφ z2
    obtain ⟨r, y1, y2⟩ := c_bestEnd hP hnv hI hbd hrm z5
    rw [gq_X2_gainOfYear_0, if_neg (nI_ge (show q < m by omega) (by omega)), z1, Option.bind_some]
    show ∃ o, Option.bind (dn_X2_bestEnd rc' rm (nI nv) (nI P)) _ = some o ∧ _
    rw [y1, Option.bind_some]
    rcases y2 with ⟨y2, y3⟩ | ⟨v, D, y3, y4, y5, y6, y7, y8, y9⟩
    · rw [if_pos y2]
      refine ⟨_, rfl, ?_⟩
      show nI (wsm wt ch.testBit m) = _
      rw [fInv_stop hg hI ht R z3 hle z4 y3]
    · obtain ⟨hW, tm, now, hvia⟩ := z2
      obtain ⟨k, f, t, e, w1, w2, w3, w4, w5, w6, w7⟩ := via_path hvia z3 (tm v + 1) v D (by omega) y7
      have hfn : ∀ p, p ≤ k → f p < nv := by
        intro p hp
        cases p with
        | zero => exact w3.1
        | succ p =>
          have := hg (e p) (w5 p (by omega)).1.1
          rcases (w5 p (by omega)).1.2 with ⟨_, _, b3, _⟩ | ⟨_, _, b3, _⟩
          · rw [b3]; exact this.2.1
          · rw [b3]; exact this.1
      have hfd : ∀ p q, p < q → q ≤ k → f p ≠ f q := fun p q hpq hqk x => by
        have := w7 p q hpq hqk
        rw [x] at this; omega
      have hk : k + 1 ≤ nv := pz_pigeon nv (k + 1) f (fun p hp => hfn p (by omega)) (fun p q hpq hq => hfd p q hpq (by omega))
      have hed : ∀ p q, p < q → q < k → e p ≠ e q := fun p q hpq hqk x => by
        have h1 := (w5 p (by omega)).2
        have h2 := (w5 q hqk).2
        rw [x] at h1
        obtain ⟨u', v', g', q1⟩ : ∃ u' v' g', arcF le bo wt ch.testBit m (e q) u' v' g' := ⟨_, _, _, (w5 q hqk).1⟩
        have a1 := arcF_eq q1 (w5 q hqk).1
        have a2 := arcF_eq q1 (by have := (w5 p (by omega)).1; rw [x] at this; exact this)
        exact hfd (p + 1) (q + 1) (by omega) (by omega) (by rw [a1.2.1, a2.2.1])
      have hpth : ∀ p, p < k → arcF le bo wt ch.testBit m (e p) (f p) (f (p + 1)) (t (p + 1) - t p) := fun p hp => (w5 p hp).1
      have hvv : ∀ p, p < k → vi' (f (p + 1)) = nI (e p) := fun p hp => by
        rw [z6 _ (hfn (p + 1) (by omega)), (w5 p hp).2]; rfl
      have hvz : vi' (f 0) = -1 := by rw [z6 _ (hfn 0 (by omega)), w4]; rfl
      obtain ⟨ch', c1, c2, c3⟩ := c_turnPath hg hnv hm hC hch (by omega) hpth hed hfn hvv hvz rm
      have hcf : ch'.testBit = tgl ch.testBit e 0 k := funext c2
      have t0 : t 0 = 0 := w3.2.2.2
      obtain ⟨n1, n2, n3, n4⟩ := fInv_step hg hI R z3 hle z4 (D := D) y9 hpth hed w3.2.1 (by rw [w1]; exact y5) t0 w2 w6 (hfn 0 (by omega)) (hfn k (by omega)) w3.2.2.1 (by rw [w1]; exact y6)
      have hcnt := path_cnt hg hpth hed w3.2.1 k (Nat.le_refl k)
      rw [w1, y5] at hcnt
      rw [← hcf] at n1 n2 n3 hcnt
      have hw1 := wsm_le hg ch.testBit
      have hw2 := wsm_le hg ch'.testBit
      rw [w1] at c3
      obtain ⟨o, x1, x2⟩ := c_paths hP hg hnv hm hC j (q + 1) ch' (upP R φ (tt - D)) D (upd (upd rm (f 0) (rm (f 0) - 1)) v ((upd rm (f 0) (rm (f 0) - 1)) v - 1)) rc' vi' (by omega) c1 n1 (fun v => Int.le_trans (upP_le (hle v) (by omega)) (hφ v)) (by omega) (by simp only [Bool.false_eq_true, if_false] at hcnt; omega) (fun w hw => by
        have hr := hrm w hw
        have hr2 := hrm v y3
        have hr3 := hrm (f 0) (hfn 0 (by omega))
        have h3 := hI.2.2.1 w hw
        have hne : f 0 ≠ v := fun x => by
          have := w3.2.1
          rw [x, y5] at this; cases this
        have hroom := w3.2.2.1
        refine ⟨hr.1, ?_⟩
        rw [n3 w, w1]
        by_cases d1 : w = v
        · subst d1
          rw [pk_us, pk_un (fun x => hne x.symm), hr.2, pz_s1 (by omega), if_neg hne, if_pos rfl]
          congr 1
        · rw [pk_un d1, if_neg (show ¬ v = w from fun x => d1 x.symm)]
          by_cases d2 : w = f 0
          · subst d2
            rw [pk_us, hr.2, pz_s1 (by omega), if_pos rfl]
            congr 1
          · rw [pk_un d2, hr.2, if_neg (fun x => d2 x.symm)]
            congr 1)
      refine ⟨o, ?_, x2⟩
      rw [y4, if_neg (show ¬ nI v = -1 from fun x => by rw [pz_n0 (by omega)] at x; exact x), inb_nI (by omega) (by omega), if_pos rfl, c3, Option.bind_some, nI_clamp (by omega)]
      show gn_X2_gainOfYear_0 (nI m) bf lf wf (nI nv) (nI P) (nI (wsm wt ch.testBit m) + rc' v) (nI q + 1) (nI ch') rc' vi' _ = some o
      rw [z5 v y3, y7]
      show gn_X2_gainOfYear_0 (nI m) bf lf wf (nI nv) (nI P) (nI (wsm wt ch.testBit m) + zI D) (nI q + 1) (nI ch') rc' vi' _ = some o
      rw [zI_n (n := wsm wt ch.testBit m) (by omega), zI_add, ← n2, ← zI_n (by omega), nI_1]
      exact x1
