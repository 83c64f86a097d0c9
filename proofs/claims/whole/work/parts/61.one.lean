/-! ===== pure rows: one's best years ===== -/
def ygT (T : tT) (p Q t : Nat) : Nat := sm (fun d => if T 10 d = t ∧ goT T Q d = true then shT T d p else 0) (T 1 0)
def ySx (T : tT) (p P a y : Nat) : Nat := sm (fun t => ygT T p (if a = 1 then P ||| 2 ^ p else adn P (2 ^ p)) t) y
def ygx (T : tT) (p P a t : Nat) : Nat := ygT T p (if a = 1 then P ||| 2 ^ p else adn P (2 ^ p)) t
theorem ygT_le {T : tT} (hw : twf T) (p Q t : Nat) : ygT T p Q t ≤ 2970 := by
  have h1 := hw.d
  have := sm_le (fun d => if T 10 d = t ∧ goT T Q d = true then shT T d p else 0) 99 (T 1 0) (fun k hk => by
    show (if T 10 k = t ∧ goT T Q k = true then shT T k p else 0) ≤ 99
    split
    · exact shT_le hw hk p
    · omega)
  unfold ygT
  omega
theorem ySx_le {T : tT} (hw : twf T) (p P a y : Nat) (hy : y ≤ 60) : ySx T p P a y ≤ 178200 := by
  have := sm_le (fun t => ygT T p (if a = 1 then P ||| 2 ^ p else adn P (2 ^ p)) t) 2970 y (fun k _ => ygT_le hw _ _ _)
  unfold ySx
  omega
theorem sm_monoN (f : Nat → Nat) (a : Nat) : ∀ d, sm f a ≤ sm f (a + d)
  | 0 => Nat.le_refl _
  | d + 1 => by
    have := sm_monoN f a d
    show sm f a ≤ sm f (a + d) + f (a + d)
    omega
theorem ySx_mono (T : tT) (p P a : Nat) {x y : Nat} (h : x ≤ y) : ySx T p P a x ≤ ySx T p P a y := by
  have := sm_monoN (fun t => ygT T p (if a = 1 then P ||| 2 ^ p else adn P (2 ^ p)) t) x (y - x)
  rw [show x + (y - x) = y from by omega] at this
  exact this
/-- who is bound so for l years from y on, and then free -/
def vvT (T : tT) (p P : Nat) (M : Nat → Nat) (a l y : Nat) : Nat := ySx T p P a (min 60 (y + l)) - ySx T p P a y + M (min 60 (y + l))
def oneM (T : tT) (p P n : Nat) (M : Nat → Nat) (lo : Nat) : Prop := M 60 = 0 ∧ (∀ y, lo ≤ y → y < 60 → M y = max (M (y + 1)) (max (vvT T p P M 1 n y) (vvT T p P M 2 n y))) ∧ ∀ y, lo ≤ y → y ≤ 60 → M y ≤ 178200 * (60 - y)
theorem c_addUp (T : tT) (hw : twf T) (b : Nat → Int32) (hb : ∀ d, d < T 1 0 → b d = nI (T 9 d)) (h : Nat → Int32) (hh : ∀ d, d < T 1 0 → h d = nI (T 12 d)) (e : Nat → Int32) (he : ∀ d, d < T 1 0 → e d = nI (T 13 d)) (l : Nat → Int32) (hl : ∀ d, d < T 1 0 → l d = nI (T 8 d)) (g : Nat → Int32) (hg : ∀ d, d < T 1 0 → g d = nI (T 11 d)) (y : Nat → Int32) (hy : ∀ d, d < T 1 0 → y d = nI (T 10 d)) (su : Nat → Int32) {p Q : Nat} (hp : p < 2 ^ 31) (hQ : Q < 2 ^ 31) : ∃ su', dn_X1_addUp (nI (T 1 0)) b h e l g y su (nI p) (nI Q) = some su' ∧ ∀ t, t ≤ 60 → su' t = nI (sm (fun t => ygT T p Q t) t) := by
  have hn := hw.d
  obtain ⟨s1, h1, h2⟩ := pz_rel0 (fun k (q : Nat → Int32) => gn_X1_addUp_0 (nI (T 1 0)) b h e l g y (nI p) (nI Q) (nI k) q) (T 1 0) (fun k q => q 0 = 0 ∧ ∀ t, t < 60 → q (t + 1) = nI (sm (fun d => if T 10 d = t ∧ goT T Q d = true then shT T d p else 0) k)) (jfill 61 su 0) ⟨by unfold jfill; rw [if_pos (by omega)], fun t ht => by unfold jfill; rw [if_pos (by omega)]; rfl⟩ (by
    rintro k q hk ⟨q0, q1⟩
    have d := hw.ds hk
    have hq : gn_X1_addUp_0 (nI (T 1 0)) b h e l g y (nI p) (nI Q) (nI k) q = if goT T Q k = true then gn_X1_addUp_0 (nI (T 1 0)) b h e l g y (nI p) (nI Q) (nI (k + 1)) (upd q (T 10 k + 1) (q (T 10 k + 1) + nI (shT T k p))) else gn_X1_addUp_0 (nI (T 1 0)) b h e l g y (nI p) (nI Q) (nI (k + 1)) q := by
      rw [gq_X1_addUp_0, if_neg (nI_ge hk (by omega)), c_goesBy T hw b hb e he l hl hk hQ, Option.bind_some, inb_nI (by omega) (by omega), if_pos rfl, nI_clamp (by omega), hy k hk, nI_1, nI_1, inb_nI (show T 10 k + 1 < 61 by omega) (by omega), if_pos rfl, c_shareOf T hw b hb h hh l hl g hg hk hp, Option.bind_some, if_pos rfl, nI_clamp (by omega)]
    have hs : ∀ t, sm (fun d => if T 10 d = t ∧ goT T Q d = true then shT T d p else 0) (k + 1) = sm (fun d => if T 10 d = t ∧ goT T Q d = true then shT T d p else 0) k + (if T 10 k = t ∧ goT T Q k = true then shT T k p else 0) := fun t => rfl
    by_cases c : goT T Q k = true
    · rw [if_pos c] at hq
      refine ⟨_, ⟨by rw [pk_un (by omega)]; exact q0, fun t ht => ?_⟩, hq⟩
      rw [hs]
      by_cases e1 : T 10 k = t
      · rw [e1, pk_us, if_pos ⟨rfl, c⟩, q1 t ht, nI_add]
      · rw [pk_un (by omega), if_neg (fun x => e1 x.1), q1 t ht, Nat.add_zero]
    · rw [if_neg c] at hq
      refine ⟨q, ⟨q0, fun t ht => ?_⟩, hq⟩
      rw [hs, if_neg (fun x => c x.2), q1 t ht, Nat.add_zero])
  obtain ⟨s2, h3, h4⟩ := pz_rel0 (fun k (q : Nat → Int32) => gn_X1_addUp_1 (nI (T 1 0)) b h e l g y (nI p) (nI Q) (nI k) q) 60 (fun k q => (∀ t, t ≤ k → q t = nI (sm (fun t => ygT T p Q t) t)) ∧ ∀ t, k ≤ t → t < 60 → q (t + 1) = nI (ygT T p Q t)) s1 ⟨fun t ht => by
      have : t = 0 := by omega
      subst this
      rw [h1.1]; rfl, fun t _ ht => h1.2 t ht⟩ (by
    rintro k q hk ⟨q0, q1⟩
    refine ⟨upd q (k + 1) (q (k + 1) + q k), ⟨fun t ht => ?_, fun t ht1 ht2 => ?_⟩, ?_⟩
    · by_cases e1 : t = k + 1
      · subst e1
        rw [pk_us, q0 k (Nat.le_refl k), q1 k (Nat.le_refl k) hk, nI_add, sm_s, Nat.add_comm]
      · rw [pk_un e1]; exact q0 t (by omega)
    · rw [pk_un (by omega)]; exact q1 t (by omega) ht2
    · show gn_X1_addUp_1 _ _ _ _ _ _ _ _ _ _ _ = gn_X1_addUp_1 _ _ _ _ _ _ _ _ _ _ _
      rw [gq_X1_addUp_1, if_neg (show ¬ (60 : Int32) ≤ nI k from nI_ge (b := 60) hk (by omega)), nI_1, inb_nI (show k + 1 < 61 by omega) (by omega), if_pos rfl, inb_nI (show k < 61 by omega) (by omega), if_pos rfl, if_pos rfl, nI_clamp (by omega), nI_clamp (by omega)])
  refine ⟨s2, ?_, fun t ht => h3.1 t ht⟩
  have e1 : dn_X1_addUp (nI (T 1 0)) b h e l g y su (nI p) (nI Q) = gn_X1_addUp_0 (nI (T 1 0)) b h e l g y (nI p) (nI Q) (nI (T 1 0)) s1 := h2
  have e2 : gn_X1_addUp_1 (nI (T 1 0)) b h e l g y (nI p) (nI Q) 0 s1 = gn_X1_addUp_1 (nI (T 1 0)) b h e l g y (nI p) (nI Q) (nI 60) s2 := h4
  rw [e1, gq_X1_addUp_0, if_pos (nI_le (Nat.le_refl _) (by omega)), e2, gq_X1_addUp_1, if_pos (show (60 : Int32) ≤ nI 60 by decide)]
theorem c_free {n y : Nat} (hn : n ≤ 60) (hy : y ≤ 60) : dn_X1_freeAgain (nI n) (nI y) = some (nI (min 60 (y + n))) := by
  unfold dn_X1_freeAgain
  rw [nI_add]
  by_cases c : y + n < 60
  · rw [if_pos (show nI (y + n) < 60 from nI_lt (b := 60) c (by omega)), Nat.min_eq_right (by omega)]
  · rw [if_neg (show ¬ nI (y + n) < 60 from nI_nlt (a := y + n) (b := 60) (by omega) (by omega)), Nat.min_eq_left (by omega)]; rfl
theorem c_byBinding {T : tT} (hw : twf T) {p P n a y : Nat} {M : Nat → Nat} (hn : n ≤ 60) (hy : y ≤ 60) {su mo : Nat → Int32} (hsu : ∀ t, t ≤ 60 → su t = nI (ySx T p P a t)) (hmo : mo (min 60 (y + n)) = nI (M (min 60 (y + n)))) : dn_X1_byBinding (nI n) mo su (nI y) = some (nI (vvT T p P M a n y)) := by
  have h1 : min 60 (y + n) ≤ 60 := Nat.min_le_left _ _
  have h2 : y ≤ min 60 (y + n) := by omega
  have h3 := ySx_mono T p P a h2
  have h4 := ySx_le hw p P a (min 60 (y + n)) h1
  unfold dn_X1_byBinding
  rw [c_free hn hy, Option.bind_some, inb_nI (by omega) (by omega), inb_nI (by omega) (by omega), if_pos rfl, if_pos rfl, if_pos rfl, nI_clamp (by omega), nI_clamp (by omega), hsu _ h1, hsu y hy, hmo, pz_s h3, nI_add]
  rfl
theorem vvT_le {T : tT} (hw : twf T) {p P n a y : Nat} {M : Nat → Nat} (hm : M (min 60 (y + n)) ≤ 178200 * (60 - min 60 (y + n))) : vvT T p P M a n y ≤ 178200 + 178200 * (60 - min 60 (y + n)) := by
  have h4 := ySx_le hw p P a (min 60 (y + n)) (Nat.min_le_left _ _)
  unfold vvT
  omega
theorem vvT_congr {T : tT} {p P n a y : Nat} {M M' : Nat → Nat} (h : M (min 60 (y + n)) = M' (min 60 (y + n))) : vvT T p P M a n y = vvT T p P M' a n y := by
  unfold vvT; rw [h]
theorem pz_mx {a b : Nat} (ha : a < 2 ^ 31) (hb : b < 2 ^ 31) : (if nI a < nI b then nI b else nI a) = nI (max a b) := by
  simp only [pz_lt ha hb]
  by_cases c : a < b
  · rw [if_pos c, Nat.max_eq_right (by omega)]
  · rw [if_neg c, Nat.max_eq_left (by omega)]
theorem c_reckon (T : tT) (hw : twf T) (b : Nat → Int32) (hb : ∀ d, d < T 1 0 → b d = nI (T 9 d)) (h : Nat → Int32) (hh : ∀ d, d < T 1 0 → h d = nI (T 12 d)) (e : Nat → Int32) (he : ∀ d, d < T 1 0 → e d = nI (T 13 d)) (l : Nat → Int32) (hl : ∀ d, d < T 1 0 → l d = nI (T 8 d)) (g : Nat → Int32) (hg : ∀ d, d < T 1 0 → g d = nI (T 11 d)) (y : Nat → Int32) (hy : ∀ d, d < T 1 0 → y d = nI (T 10 d)) {p P k0 n : Nat} (hp : p < T 0 0) (hP : P < 2 ^ T 0 0) (hk0 : k0 ≤ 60) (hn : n = if k0 = 0 then 60 else k0) (bn : Int32) (bw ln mo : Nat → Int32) : ∃ M ln' bw' mo', dn_X1_reckon bn bw ln mo (nI (T 1 0)) b h e l g y (nI p) (nI P) (nI k0) = some (nI n, ln', bw', mo') ∧ (∀ t, t ≤ 60 → ln' t = nI (ySx T p P 1 t)) ∧ (∀ t, t ≤ 60 → bw' t = nI (ySx T p P 2 t)) ∧ (∀ t, t ≤ 60 → mo' t = nI (M t)) ∧ oneM T p P n M 0 := by
  have hp1 := hw.p
  have hp10 := pz_10 hw.p
  have hn1 : 1 ≤ n ∧ n ≤ 60 := by
    rw [hn]
    split <;> omega
  have hP1 : P ||| 2 ^ p < 2 ^ T 0 0 := Nat.or_lt_two_pow hP (pz_p2 hp)
  have hP2 := adn_lt (b := 2 ^ p) hP
  obtain ⟨ln', a1, a2⟩ := c_addUp T hw b hb h hh e he l hl g hg y hy ln (p := p) (Q := P ||| 2 ^ p) (by omega) (by omega)
  obtain ⟨bw', b1, b2⟩ := c_addUp T hw b hb h hh e he l hl g hg y hy bw (p := p) (Q := adn P (2 ^ p)) (by omega) (by omega)
  have hl2 : ∀ t, t ≤ 60 → ln' t = nI (ySx T p P 1 t) := a2
  have hb2 : ∀ t, t ≤ 60 → bw' t = nI (ySx T p P 2 t) := b2
  have key : ∀ (j lo : Nat), lo + j = 60 → ∀ (mo : Nat → Int32), ∃ mo' M, gn_X1_reckon_1 (nI (T 1 0)) b h e l g y (nI p) (nI P) (nI lo - 1) (nI n) ln' bw' mo' = gn_X1_reckon_1 (nI (T 1 0)) b h e l g y (nI p) (nI P) 59 (nI n) ln' bw' (upd mo 60 0) ∧ (∀ t, lo ≤ t → t ≤ 60 → mo' t = nI (M t)) ∧ oneM T p P n M lo := by
    intro j
    induction j with
    | zero =>
      intro lo hlo mo
      have e : lo = 60 := by omega
      subst e
      refine ⟨upd mo 60 0, fun _ => 0, rfl, fun t h1 h2 => ?_, rfl, fun y h1 h2 => by omega, fun y h1 h2 => Nat.zero_le _⟩
      have : t = 60 := by omega
      subst this
      rw [pk_us]; rfl
    | succ j ih =>
      intro lo hlo mo
      obtain ⟨mo', M, c1, c2, c3, c4, c5⟩ := ih (lo + 1) (by omega) mo
      have hfr : lo + 1 ≤ min 60 (lo + n) := by omega
      have hfr2 : min 60 (lo + n) ≤ 60 := Nat.min_le_left _ _
      have m1 := c5 (min 60 (lo + n)) hfr hfr2
      have v1 := vvT_le hw (p := p) (P := P) (a := 1) m1
      have v2 := vvT_le hw (p := p) (P := P) (a := 2) m1
      have m2 := c5 (lo + 1) (by omega) (by omega)
      have g1 := c_byBinding hw (p := p) (P := P) (n := n) (a := 1) (y := lo) (M := M) hn1.2 (by omega) hl2 (c2 _ hfr hfr2)
      have g2 := c_byBinding hw (p := p) (P := P) (n := n) (a := 2) (y := lo) (M := M) hn1.2 (by omega) hb2 (c2 _ hfr hfr2)
      obtain ⟨V, hV⟩ : ∃ V, V = max (M (lo + 1)) (max (vvT T p P M 1 n lo) (vvT T p P M 2 n lo)) := ⟨_, rfl⟩
      have hst : gn_X1_reckon_1 (nI (T 1 0)) b h e l g y (nI p) (nI P) (nI (lo + 1) - 1) (nI n) ln' bw' mo' = gn_X1_reckon_1 (nI (T 1 0)) b h e l g y (nI p) (nI P) (nI lo - 1) (nI n) ln' bw' (upd mo' lo (nI V)) := by
        rw [pz_s1 (by omega), Nat.add_sub_cancel, gq_X1_reckon_1, if_neg (nI_pos (by omega)), nI_1, inb_nI (by omega) (by omega), if_pos rfl, g1, Option.bind_some, g2, Option.bind_some, inb_nI (by omega) (by omega), if_pos rfl, nI_clamp (by omega), nI_clamp (by omega), c2 (lo + 1) (by omega) (by omega), pz_mx (by omega) (by omega), pz_mx (by omega) (by omega), ← hV, pz_sub1]
      refine ⟨upd mo' lo (nI V), fun z => if z = lo then V else M z, by rw [← hst]; exact c1, fun t h1 h2 => ?_, ?_, fun y' h1 h2 => ?_, fun y' h1 h2 => ?_⟩
      · show upd mo' lo (nI V) t = nI (if t = lo then V else M t)
        by_cases e1 : t = lo
        · subst e1; rw [pk_us, if_pos rfl]
        · rw [pk_un e1, if_neg e1]; exact c2 t (by omega) h2
      · show (if 60 = lo then V else M 60) = 0
        rw [if_neg (by omega)]; exact c3
      · show (if y' = lo then V else M y') = max (if y' + 1 = lo then V else M (y' + 1)) (max (vvT T p P (fun z => if z = lo then V else M z) 1 n y') (vvT T p P (fun z => if z = lo then V else M z) 2 n y'))
        have hx : ∀ a, vvT T p P (fun z => if z = lo then V else M z) a n y' = vvT T p P M a n y' := fun a => vvT_congr (by
          show (if min 60 (y' + n) = lo then V else M _) = _
          rw [if_neg (by omega)])
        rw [hx, hx, if_neg (show ¬ y' + 1 = lo by omega)]
        by_cases e1 : y' = lo
        · rw [if_pos e1, e1, hV]
        · rw [if_neg e1]; exact c4 y' (by omega) h2
      · show (if y' = lo then V else M y') ≤ _
        by_cases e1 : y' = lo
        · rw [if_pos e1, e1, hV]
          omega
        · rw [if_neg e1]; exact c5 y' (by omega) h2
  obtain ⟨mo', M, c1, c2, c3⟩ := key 60 0 (by omega) mo
  refine ⟨M, ln', bw', mo', ?_, hl2, hb2, fun t ht => c2 t (Nat.zero_le t) ht, c3⟩
  have h0 : gn_X1_reckon_0 (nI (T 1 0)) b h e l g y (nI p) (nI P) (nI n) bn ln bw mo = some (nI n, ln', bw', mo') := by
    rw [gq_X1_reckon_0, pz_1shl (by omega), pz_or, pz_andn, a1, Option.bind_some, b1, Option.bind_some, show (60 : Int32).toNatClampNeg = 60 from rfl, ← c1, gq_X1_reckon_1, if_pos (show nI 0 - 1 < 0 by decide)]
  unfold dn_X1_reckon
  simp only [pz_e0 (show k0 < 2 ^ 31 by omega)]
  by_cases c : k0 = 0
  · rw [if_pos c] at hn ⊢
    rw [← h0, hn]; rfl
  · rw [if_neg c] at hn ⊢
    rw [← h0, hn]
