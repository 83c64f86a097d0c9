/-! ===== pure rows: one's best years, the model's; the row of them ===== -/
def bIx (y a l : Nat) : Nat := 121 * y + (if l = 0 then 0 else 2 * l - 2 + a)
theorem m_bindAt {y a l : Nat} : dn_X12_bindAt (nI y) (nI a) (nI l) = if nI l = 0 then some (nI (121 * y)) else some (nI (121 * y) + (nI (2 * l) - 2 + nI a)) := by
  unfold dn_X12_bindAt
  rw [show (121 : Int32) = nI 121 from rfl, pk_mul, pz_2, pz_a0]
theorem m_bindI {y a l : Nat} (hl : l < 2 ^ 31) : dn_X12_bindAt (nI y) (nI a) (nI l) = some (nI (bIx y a l)) := by
  rw [m_bindAt]
  unfold bIx
  simp only [pz_e0 hl]
  by_cases c : l = 0
  · rw [if_pos c, if_pos c, Nat.add_zero]
  · rw [if_neg c, if_neg c, show (2 : Int32) = nI 2 from rfl, pz_s (by omega), nI_add, nI_add]
theorem m_yearGains (T : tT) (hw : twf T) (s : Nat → Int32) (hs : mT T s) (yg : Nat → Int32) {p P : Nat} (hp : p < T 0 0) (hP : P < 2 ^ T 0 0) : ∃ yg', dn_X12_yearGains s yg (nI p) (nI P) = some yg' ∧ ∀ a t, 1 ≤ a → a ≤ 2 → t < 60 → yg' (2 * t + a - 1) = nI (ygx T p P a t) := by
  have hn := hw.d
  have hp1 := hw.p
  have hp10 := pz_10 hw.p
  have hP1 : P ||| 2 ^ p < 2 ^ T 0 0 := Nat.or_lt_two_pow hP (pz_p2 hp)
  have hP2 := adn_lt (b := 2 ^ p) hP
  obtain ⟨s1, h1, h2⟩ := pz_rel0 (fun k (q : Nat → Int32) => gn_X12_yearGains_0 s (nI p) (nI P) (nI k) q) 120 (fun k q => ∀ t, t < k → q t = nI 0) yg (fun t ht => by omega) (by
    intro k q hk hq
    refine ⟨upd q k 0, fun t ht => ?_, ?_⟩
    · by_cases e : t = k
      · subst e; rw [pk_us]; rfl
      · rw [pk_un e]; exact hq t (by omega)
    · show gn_X12_yearGains_0 _ _ _ _ _ = gn_X12_yearGains_0 _ _ _ _ _
      rw [gq_X12_yearGains_0, if_neg (show ¬ (120 : Int32) ≤ nI k from nI_ge (b := 120) hk (by omega)), inb_nI hk (by omega), if_pos rfl, nI_clamp (by omega), nI_1])
  obtain ⟨G, hG⟩ : ∃ G : Nat → Nat → Nat → Nat, ∀ a t k, G a t k = sm (fun d => if T 10 d = t ∧ goT T (if a = 1 then P ||| 2 ^ p else adn P (2 ^ p)) d = true then shT T d p else 0) k := ⟨_, fun _ _ _ => rfl⟩
  have hGs : ∀ a t k, G a t (k + 1) = G a t k + (if T 10 k = t ∧ goT T (if a = 1 then P ||| 2 ^ p else adn P (2 ^ p)) k = true then shT T k p else 0) := fun a t k => by rw [hG, hG]; rfl
  obtain ⟨s2, h3, h4⟩ := pz_rel0 (fun k (q : Nat → Int32) => gn_X12_yearGains_1 s (nI p) (nI P) (nI k) q) (T 1 0) (fun k q => ∀ t, t < 60 → q (2 * t) = nI (G 1 t k) ∧ q (2 * t + 1) = nI (G 2 t k)) s1 (fun t ht => ⟨by rw [hG]; exact h1 _ (by omega), by rw [hG]; exact h1 _ (by omega)⟩) (by
    rintro k q hk hq
    have d := hw.ds hk
    have g1 := gaT_le T (P ||| 2 ^ p) k
    have g2 := gaT_le T (adn P (2 ^ p)) k
    have y1 : goT T (P ||| 2 ^ p) k = decide (0 < gaT T (P ||| 2 ^ p) k) := gaT_go T _ k
    have y2 : goT T (adn P (2 ^ p)) k = decide (0 < gaT T (adn P (2 ^ p)) k) := gaT_go T _ k
    by_cases c0 : isInT T k p = true
    · have hq2 : gn_X12_yearGains_1 s (nI p) (nI P) (nI k) q = gn_X12_yearGains_2 s (nI p) (nI P) (nI k) q := by
        rw [gq_X12_yearGains_1, show (1 : Int32).toNatClampNeg = 1 from rfl, hs.2.1, if_neg (nI_ge hk (by omega)), m_of0 T hw s hs hk, Option.bind_some, m_of1 T hw s hs hk, Option.bind_some]
        simp only [pz_eq (show T 8 k < 2 ^ 31 by omega) (show p < 2 ^ 31 by omega), pz_eq (show T 9 k < 2 ^ 31 by omega) (show p < 2 ^ 31 by omega)]
        by_cases c1 : T 8 k = p
        · rw [if_pos c1]
        · by_cases c2 : T 9 k = p
          · rw [if_neg c1, if_pos c2]
          · simp [isInT, c1, c2] at c0
      have hq3 : ∀ (q : Nat → Int32), gn_X12_yearGains_3 s (nI p) (nI P) (nI k) (nI (gaT T (adn P (2 ^ p)) k)) q = gn_X12_yearGains_1 s (nI p) (nI P) (nI (k + 1)) (if 0 < gaT T (adn P (2 ^ p)) k then upd q (2 * T 10 k + 1) (q (2 * T 10 k + 1) + nI (shT T k p)) else q) := by
        intro q
        rw [gq_X12_yearGains_3, m_of2 T hw s hs hk, Option.bind_some, pz_2, nI_1, nI_1, inb_nI (show 2 * T 10 k + 1 < 120 by omega) (by omega), if_pos rfl, m_gainOf T hw s hs hk (by omega), Option.bind_some, if_pos rfl, nI_clamp (by omega)]
        simp only [pz_le0 (show gaT T (adn P (2 ^ p)) k < 2 ^ 31 by omega)]
        by_cases c : gaT T (adn P (2 ^ p)) k = 0
        · rw [if_pos c, if_neg (by omega)]
        · rw [if_neg c, if_pos (by omega)]
      have hq4 : gn_X12_yearGains_2 s (nI p) (nI P) (nI k) q = gn_X12_yearGains_3 s (nI p) (nI P) (nI k) (nI (gaT T (adn P (2 ^ p)) k)) (if 0 < gaT T (P ||| 2 ^ p) k then upd q (2 * T 10 k) (q (2 * T 10 k) + nI (shT T k p)) else q) := by
        rw [gq_X12_yearGains_2, pz_1shl (by omega), pz_or, pz_andn, m_goesAs T hw s hs hk (by omega), Option.bind_some, m_goesAs T hw s hs hk (by omega), Option.bind_some, m_of2 T hw s hs hk, Option.bind_some, pz_2, inb_nI (show 2 * T 10 k < 120 by omega) (by omega), if_pos rfl, m_gainOf T hw s hs hk (by omega), Option.bind_some, if_pos rfl, nI_clamp (by omega)]
        simp only [pz_le0 (show gaT T (P ||| 2 ^ p) k < 2 ^ 31 by omega)]
        by_cases c : gaT T (P ||| 2 ^ p) k = 0
        · rw [if_pos c, if_neg (by omega)]
        · rw [if_neg c, if_pos (by omega)]
      refine ⟨_, fun t ht => ?_, (hq2.trans hq4).trans (hq3 _)⟩
      have q0 := hq t ht
      have qk := hq (T 10 k) (by omega)
      rw [hGs, hGs]
      simp only [if_true, show ¬ (2 : Nat) = 1 from by decide, if_false, y1, y2, decide_eq_true_eq]
      by_cases e1 : T 10 k = t
      · subst e1
        by_cases c1 : 0 < gaT T (P ||| 2 ^ p) k <;> by_cases c2 : 0 < gaT T (adn P (2 ^ p)) k
        · rw [if_pos c1, if_pos c2, if_pos ⟨rfl, c1⟩, if_pos ⟨rfl, c2⟩, pk_un (by omega), pk_us, pk_us, pk_un (by omega), q0.1, q0.2, nI_add, nI_add]; exact ⟨rfl, rfl⟩
        · rw [if_pos c1, if_neg c2, if_pos ⟨rfl, c1⟩, if_neg (fun x => c2 x.2), pk_us, pk_un (by omega), q0.1, q0.2, nI_add, Nat.add_zero]; exact ⟨rfl, rfl⟩
        · rw [if_neg c1, if_pos c2, if_neg (fun x => c1 x.2), if_pos ⟨rfl, c2⟩, pk_un (by omega), pk_us, q0.1, q0.2, nI_add, Nat.add_zero]; exact ⟨rfl, rfl⟩
        · rw [if_neg c1, if_neg c2, if_neg (fun x => c1 x.2), if_neg (fun x => c2 x.2), q0.1, q0.2, Nat.add_zero, Nat.add_zero]; exact ⟨rfl, rfl⟩
      · rw [if_neg (show ¬ (T 10 k = t ∧ 0 < gaT T (P ||| 2 ^ p) k) from fun x => e1 x.1), if_neg (show ¬ (T 10 k = t ∧ 0 < gaT T (adn P (2 ^ p)) k) from fun x => e1 x.1), Nat.add_zero (G 1 t k), Nat.add_zero (G 2 t k), ← q0.1, ← q0.2]
        by_cases c1 : 0 < gaT T (P ||| 2 ^ p) k <;> by_cases c2 : 0 < gaT T (adn P (2 ^ p)) k
        · rw [if_pos c1, if_pos c2, pk_un (by omega), pk_un (by omega), pk_un (by omega), pk_un (by omega)]; exact ⟨rfl, rfl⟩
        · rw [if_pos c1, if_neg c2, pk_un (by omega), pk_un (by omega)]; exact ⟨rfl, rfl⟩
        · rw [if_neg c1, if_pos c2, pk_un (by omega), pk_un (by omega)]; exact ⟨rfl, rfl⟩
        · rw [if_neg c1, if_neg c2]; exact ⟨rfl, rfl⟩
    · have hc0 : isInT T k p = false := by simpa using c0
      have hsh := shT_out hc0
      refine ⟨q, fun t ht => ?_, ?_⟩
      · rw [hGs, hGs, hsh]
        have := hq t ht
        rw [ite_self, ite_self, Nat.add_zero, Nat.add_zero]; exact this
      · show gn_X12_yearGains_1 _ _ _ _ _ = gn_X12_yearGains_1 _ _ _ _ _
        rw [gq_X12_yearGains_1, show (1 : Int32).toNatClampNeg = 1 from rfl, hs.2.1, if_neg (nI_ge hk (by omega)), m_of0 T hw s hs hk, Option.bind_some, m_of1 T hw s hs hk, Option.bind_some, nI_1]
        simp only [pz_eq (show T 8 k < 2 ^ 31 by omega) (show p < 2 ^ 31 by omega), pz_eq (show T 9 k < 2 ^ 31 by omega) (show p < 2 ^ 31 by omega)]
        simp only [isInT, Bool.or_eq_false_iff, beq_eq_false_iff_ne, ne_eq] at hc0
        rw [if_neg hc0.1, if_neg hc0.2])
  refine ⟨s2, ?_, fun a t ha1 ha2 ht => ?_⟩
  · have e1 : dn_X12_yearGains s yg (nI p) (nI P) = gn_X12_yearGains_0 s (nI p) (nI P) (nI 120) s1 := h2
    have e2 : gn_X12_yearGains_1 s (nI p) (nI P) 0 s1 = gn_X12_yearGains_1 s (nI p) (nI P) (nI (T 1 0)) s2 := h4
    rw [e1, gq_X12_yearGains_0, if_pos (show (120 : Int32) ≤ nI 120 by decide), e2, gq_X12_yearGains_1, show (1 : Int32).toNatClampNeg = 1 from rfl, hs.2.1, if_pos (nI_le (Nat.le_refl _) (by omega))]
  · have h5 := h3 t ht
    have ha : a = 1 ∨ a = 2 := by omega
    rcases ha with e | e
    · subst e
      rw [show 2 * t + 1 - 1 = 2 * t from by omega, h5.1, hG]; rfl
    · subst e
      rw [show 2 * t + 2 - 1 = 2 * t + 1 from by omega, h5.2, hG]; rfl
def lvM (T : tT) (p P : Nat) (M : Nat → Nat) (mo : Nat → Int32) (y : Nat) : Prop := ∀ l a, l ≤ 60 → 1 ≤ a → a ≤ 2 → mo (bIx y a l) = nI (vvT T p P M a l y)
theorem vvT_0 {T : tT} {p P a y : Nat} {M : Nat → Nat} (hy : y ≤ 60) : vvT T p P M a 0 y = M y := by
  unfold vvT
  rw [Nat.add_zero, Nat.min_eq_right hy, Nat.sub_self, Nat.zero_add]
theorem vvT_60 {T : tT} {p P a l : Nat} {M : Nat → Nat} (hM : M 60 = 0) : vvT T p P M a l 60 = 0 := by
  unfold vvT
  rw [Nat.min_eq_left (by omega), Nat.sub_self, hM]
theorem ySx_s (T : tT) (p P a y : Nat) : ySx T p P a (y + 1) = ySx T p P a y + ygx T p P a y := rfl
theorem vvT_s {T : tT} {p P a l y : Nat} {M : Nat → Nat} (hy : y < 60) : vvT T p P M a (l + 1) y = ygx T p P a y + vvT T p P M a l (y + 1) := by
  have h1 : y + (l + 1) = y + 1 + l := by omega
  have h2 := ySx_mono T p P a (show y + 1 ≤ min 60 (y + 1 + l) by omega)
  have h3 := ySx_s T p P a y
  unfold vvT
  rw [h1]
  omega
theorem m_later {T : tT} {p P : Nat} {M : Nat → Nat} (hM : M 60 = 0) {mo : Nat → Int32} {y a l : Nat} (hy : y < 60) (hl : l ≤ 60) (ha1 : 1 ≤ a) (ha2 : a ≤ 2) (hmo : y + 1 < 60 → lvM T p P M mo (y + 1)) : dn_X12_later mo (nI y) (nI a) (nI l) = some (nI (vvT T p P M a l (y + 1))) := by
  unfold dn_X12_later
  by_cases c : y = 59
  · subst c
    rw [if_pos (show nI 59 = 59 from rfl), vvT_60 hM]; rfl
  · have hb : bIx (y + 1) a l < 7381 := by
      unfold bIx
      split <;> omega
    rw [if_neg (show ¬ nI y = 59 from by rw [show (59 : Int32) = nI 59 from rfl, pz_eq (by omega) (by omega)]; exact c), nI_1, m_bindI (by omega), Option.bind_some, inb_nI hb (by omega), if_pos rfl, nI_clamp (by omega), hmo (by omega) l a hl ha1 ha2]
/-- the worth of doing x at y -/
def frT (T : tT) (p P n : Nat) (M : Nat → Nat) (a l x y : Nat) : Int := if x = 0 then (vvT T p P M a (l - 1) (y + 1) : Int) else if l = 0 then (vvT T p P M x n y : Int) else if a = x then (vvT T p P M a l y : Int) else -1
theorem m_from {T : tT} (hw : twf T) {p P n : Nat} (hn1 : 1 ≤ n) (hn : n ≤ 60) {M : Nat → Nat} (hM : M 60 = 0) {mo yg : Nat → Int32} (hyg : ∀ a t, 1 ≤ a → a ≤ 2 → t < 60 → yg (2 * t + a - 1) = nI (ygx T p P a t)) {y a l x : Nat} (hy : y < 60) (hl : l ≤ 60) (ha1 : 1 ≤ a) (ha2 : a ≤ 2) (hx : x ≤ 2) (hmo : y + 1 < 60 → lvM T p P M mo (y + 1)) : dn_X12_from mo yg (nI y) (nI a) (nI l) (nI x) (nI n) = some (zI (frT T p P n M a l x y)) := by
  have hle : ∀ a l, vvT T p P M a l (y + 1) < 2 ^ 31 → nI (vvT T p P M a l (y + 1)) = zI (vvT T p P M a l (y + 1) : Int) := fun a l h => zI_n h
  have hz : ∀ n : Nat, nI n = zI (n : Int) := fun n => by
    apply Int32.toBitVec_inj.mp
    show BitVec.ofNat 32 n = BitVec.ofInt 32 (n : Int)
    exact (BitVec.ofInt_natCast 32 n).symm
  unfold dn_X12_from frT
  simp only [pz_e0 (show x < 2 ^ 31 by omega), pz_le0 (show l < 2 ^ 31 by omega), pz_eq (show a < 2 ^ 31 by omega) (show x < 2 ^ 31 by omega)]
  by_cases c : x = 0
  · rw [if_pos c, if_pos c]
    by_cases c2 : l = 0
    · rw [if_pos c2, show (0 : Int32) = nI 0 from rfl, m_later hM hy (by omega) ha1 ha2 hmo, Option.bind_some, c2, ← hz]
    · rw [if_neg c2, pz_s1 (by omega), m_later hM hy (by omega) ha1 ha2 hmo, Option.bind_some, ← hz]
  · rw [if_neg c, if_neg c]
    have hg : ∀ (r : Nat), 1 ≤ r → r ≤ 60 → (∀ z : Int32 → Option Int32, Option.bind (dn_X12_later mo (nI y) (nI x) (nI r - 1)) z = z (nI (vvT T p P M x (r - 1) (y + 1)))) ∧ yg (2 * y + x - 1) + nI (vvT T p P M x (r - 1) (y + 1)) = nI (vvT T p P M x r y) := by
      intro r hr1 hr2
      refine ⟨fun z => ?_, ?_⟩
      · rw [pz_s1 (by omega), m_later hM hy (by omega) (by omega) hx hmo, Option.bind_some]
      · rw [hyg x y (by omega) hx hy, nI_add]
        have := vvT_s (T := T) (p := p) (P := P) (a := x) (l := r - 1) (M := M) hy
        rw [show r - 1 + 1 = r from by omega] at this
        rw [this]
    by_cases c2 : l = 0
    · rw [if_pos c2, if_pos c2, gq_X12_from_0, pz_2, nI_add, pz_s1 (by omega), inb_nI (by omega) (by omega), if_pos rfl, nI_clamp (by omega)]
      simp only [pz_le0 (show l < 2 ^ 31 by omega)]
      rw [if_pos c2, (hg n hn1 hn).1, (hg n hn1 hn).2, ← hz]
    · rw [if_neg c2, if_neg c2]
      by_cases c3 : a = x
      · subst c3
        rw [if_pos rfl, if_pos rfl, gq_X12_from_0, pz_2, nI_add, pz_s1 (by omega), inb_nI (by omega) (by omega), if_pos rfl, nI_clamp (by omega)]
        simp only [pz_le0 (show l < 2 ^ 31 by omega)]
        rw [if_neg c2, (hg l (by omega) hl).1, (hg l (by omega) hl).2, ← hz]
      · rw [if_neg c3, if_neg c3]; rfl
theorem frT_max {T : tT} {p P n : Nat} (hn1 : 1 ≤ n) {M : Nat → Nat} (hM : oneM T p P n M 0) {y a l : Nat} (hy : y < 60) (ha1 : 1 ≤ a) (ha2 : a ≤ 2) : max (max (max (-1) (frT T p P n M a l 0 y)) (frT T p P n M a l 1 y)) (frT T p P n M a l 2 y) = (vvT T p P M a l y : Int) := by
  unfold frT
  simp only [if_true, show ¬ (1 : Nat) = 0 from by decide, show ¬ (2 : Nat) = 0 from by decide, if_false]
  by_cases c : l = 0
  · subst c
    simp only [if_true, Nat.zero_sub]
    have h1 := hM.2.1 y (Nat.zero_le y) hy
    rw [vvT_0 (by omega), vvT_0 (by omega), h1]
    omega
  · obtain ⟨k, rfl⟩ : ∃ k, l = k + 1 := ⟨l - 1, by omega⟩
    rw [if_neg c, if_neg c, Nat.add_sub_cancel]
    have h2 := vvT_s (T := T) (p := p) (P := P) (a := a) (l := k) (M := M) hy
    have ha : a = 1 ∨ a = 2 := by omega
    rcases ha with e | e
    · subst e
      rw [if_pos rfl, if_neg (by decide)]
      omega
    · subst e
      rw [if_neg (by decide), if_pos rfl]
      omega
