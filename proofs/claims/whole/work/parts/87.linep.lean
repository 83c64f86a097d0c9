/-! ===== pure rows: a line that tells a PERSON ===== -/
theorem c_numX {O : Nat → Nat} {by_ ta : Nat → Int32} (h : ∀ k, k < 940 → O k < 256 ∧ by_ k = sbT (O k)) (h2 : ∀ k, k < 940 → O k < 256 ∧ ta k = sbT (O k)) {L M p : Nat} (hL : L ≤ 940) (hM : M ≤ 940) (hp : p ≤ L) {lo hi : Nat} (hlo : lo < 2 ^ 31) (hhi : hi < 2 ^ 31) {x y : Int32} (hx : x = nI lo) (hy : y = nI hi) (ki pl to tp tn : Int32) (tna : Int64) : (numOK O L M p lo hi → ∃ na to', dn_X6_readNumber ki pl (nI L) to tp tn tna (nI p) (nI (min L M)) by_ x y = some (true, nI (tkE O L p), nI (tkA O L M p), nI (tkV O L p), na, to', ki, pl)) ∧ (¬ numOK O L M p lo hi → ∃ ps nu na to', dn_X6_readNumber ki pl (nI L) to tp tn tna (nI p) (nI (min L M)) by_ x y = some (false, ps, nI (tkA O L M p), nu, na, to', nI (numF O L M p), nI (tkA O L M p))) := by
  subst hx; subst hy
  exact c_num h hL hp hlo hhi ki pl to tp tn tna
theorem m_numX {O : Nat → Nat} {by_ ta : Nat → Int32} (h : ∀ k, k < 940 → O k < 256 ∧ by_ k = sbT (O k)) (h2 : ∀ k, k < 940 → O k < 256 ∧ ta k = sbT (O k)) {L M p : Nat} (hL : L ≤ 940) (hM : M ≤ 940) (hp : p ≤ L) {mp mat mto : Int32} {mwo : Int64} {mnu : Int32} (hm : mTk O L M p mp mat mto mwo mnu) {lo hi : Nat} (hlo : lo < 2 ^ 31) (hhi : hi < 2 ^ 31) {x y : Int32} (hx : x = nI lo) (hy : y = nI hi) (sp fa fat got : Int32) : (numOK O L M p lo hi → ∃ mp' mat' sp' mto' mwo' mnu', dn_X12_takes (nI L) mp (nI M) mto mat sp mnu fa fat mwo got ta x y = some (true, nI (tkV O L p), mp', mat', sp', mto', mwo', mnu', fa, fat) ∧ mTk O L M (tkE O L p) mp' mat' mto' mwo' mnu') ∧ (¬ numOK O L M p lo hi → dn_X12_takes (nI L) mp (nI M) mto mat sp mnu fa fat mwo got ta x y = some (false, got, mp, mat, sp, mto, mwo, mnu, nI (numF O L M p), nI (tkA O L M p))) := by
  subst hx; subst hy
  exact m_num h2 hL hM hp hm hlo hhi sp fa fat got
def rC (T : tT) (pe de la to : Int32) (bo di li le br ye lg bg ei : Nat → Int32) : Prop :=
  pe = nI (T 0 0) ∧ de = nI (T 1 0) ∧ la = nI (T 2 0) ∧ to = nI (toldT T) ∧ (∀ p, p < T 0 0 → bo p = nI (T 4 p) ∧ di p = nI (T 5 p) ∧ li p = nI (T 6 p)) ∧ ∀ d, d < T 1 0 → le d = nI (T 8 d) ∧ br d = nI (T 9 d) ∧ ye d = nI (T 10 d) ∧ lg d = nI (T 11 d) ∧ bg d = nI (T 12 d) ∧ ei d = nI (T 13 d)
def rM (T : tT) (hh : Nat → Int32) : Prop := mT T hh ∧ hh 3 = 0 ∧ ∀ k, T 0 0 ≤ k → k < 10 → hh (34 + k) = 0
def tellT (T : tT) : Nat := bs (fun p => decide (T 7 p ≠ 0)) (T 0 0)
abbrev mLn : Type := Bool × Int32 × Int32 × Int32 × Int32 × Int32 × Int32 × Int32 × Int64 × Int32 × Int32 × (Nat → Int32) × (Nat → Int64) × Int32
/-- the model's line is not as it should be, by the line or by its sign -/
def mFail (L M : Nat) (ta : Nat → Int32) (q : mLn) (f a : Nat) : Prop := (q.1 = false ∧ q.2.1 = nI f ∧ q.2.2.1 = nI a) ∨ (q.1 = true ∧ ∃ q3, dn_X12_sign (nI L) q.2.2.2.2.1 (nI M) q.2.2.2.2.2.2.2.1 q.2.2.2.2.2.1 q.2.2.2.2.2.2.1 q.2.2.2.2.2.2.2.2.2.1 q.2.1 q.2.2.1 q.2.2.2.2.2.2.2.2.1 ta 59 = some q3 ∧ q3.1 = false ∧ q3.2.2.2.2.2.2.2.1 = nI f ∧ q3.2.2.2.2.2.2.2.2 = nI a)
/-- the model's line is done: what stands behind it -/
def mDone (O : Nat → Nat) (L M pS : Nat) (fa fat : Int32) (T : tT) (X : Nat) (hl : Int32) (mn : Nat → Int64) (q : mLn) : Prop := q.1 = true ∧ q.2.1 = fa ∧ q.2.2.1 = fat ∧ q.2.2.2.1 = hl ∧ mTk O L M pS q.2.2.2.2.1 q.2.2.2.2.2.1 q.2.2.2.2.2.2.2.1 q.2.2.2.2.2.2.2.2.1 q.2.2.2.2.2.2.2.2.2.1 ∧ rM T q.2.2.2.2.2.2.2.2.2.2.2.1 ∧ q.2.2.2.2.2.2.2.2.2.2.2.2.1 = mn ∧ q.2.2.2.2.2.2.2.2.2.2.2.2.2 = nI X
theorem mFail_sign {O : Nat → Nat} {by_ ta : Nat → Int32} (h : ∀ k, k < 940 → O k < 256 ∧ by_ k = sbT (O k)) (h2 : ∀ k, k < 940 → O k < 256 ∧ ta k = sbT (O k)) {L M p : Nat} (hL : L ≤ 940) (hM : M ≤ 940) (hp : p ≤ L) {T : tT} {X : Nat} {hl : Int32} {mn : Nat → Int64} {fa fat : Int32} {q : mLn} (hd : mDone O L M p fa fat T X hl mn q) (hk : tkK O L M p ≠ 3) : mFail L M ta q 1 (tkA O L M p) := by
  obtain ⟨a, b, c, d, e, _⟩ := hd
  refine Or.inr ⟨a, _, (m_sign h2 hL hM hp e q.2.2.2.2.2.2.1 q.2.1 q.2.2.1).2 hk, rfl, rfl, rfl⟩
/-- T and one PERSON more -/
def adP (T : tT) (b d : Nat) : tT := fun f i => if f = 0 then T 0 0 + 1 else if f = 4 ∧ i = T 0 0 then b else if f = 5 ∧ i = T 0 0 then d else if f = 6 ∧ i = T 0 0 then 9 else if f = 7 ∧ i = T 0 0 then 0 else T f i
theorem adP_0 (T : tT) (b d i : Nat) : adP T b d 0 i = T 0 0 + 1 := rfl
theorem adP_1 (T : tT) (b d i f : Nat) (h0 : f ≠ 0) (h : f < 4 ∨ 7 < f ∨ i ≠ T 0 0) : adP T b d f i = T f i := by
  unfold adP
  rw [if_neg h0, if_neg (by omega), if_neg (by omega), if_neg (by omega), if_neg (by omega)]
theorem adP_4 (T : tT) (b d : Nat) : adP T b d 4 (T 0 0) = b := by unfold adP; rw [if_neg (by omega), if_pos ⟨rfl, rfl⟩]
theorem adP_5 (T : tT) (b d : Nat) : adP T b d 5 (T 0 0) = d := by unfold adP; rw [if_neg (by omega), if_neg (by omega), if_pos ⟨rfl, rfl⟩]
theorem adP_6 (T : tT) (b d : Nat) : adP T b d 6 (T 0 0) = 9 := by unfold adP; rw [if_neg (by omega), if_neg (by omega), if_neg (by omega), if_pos ⟨rfl, rfl⟩]
theorem adP_7 (T : tT) (b d : Nat) : adP T b d 7 (T 0 0) = 0 := by unfold adP; rw [if_neg (by omega), if_neg (by omega), if_neg (by omega), if_neg (by omega), if_pos ⟨rfl, rfl⟩]
theorem adP_wf {T : tT} (hw : twf T) {b d : Nat} (hn : T 0 0 < 10) (hb : b ≤ 59) (hd : d ≤ 59) : twf (adP T b d) := by
  refine ⟨by rw [adP_0]; omega, by rw [adP_1 _ _ _ _ _ (by omega) (by omega)]; exact hw.d, by rw [adP_1 _ _ _ _ _ (by omega) (by omega)]; exact hw.n, fun p hp => ?_, fun e he => ?_⟩
  · rw [adP_0] at hp
    by_cases c : p = T 0 0
    · subst c
      rw [adP_4, adP_5, adP_6, adP_7]
      omega
    · have := hw.ps (show p < T 0 0 by omega)
      rw [adP_1 _ _ _ _ _ (by omega) (by omega), adP_1 _ _ _ _ _ (by omega) (by omega), adP_1 _ _ _ _ _ (by omega) (by omega), adP_1 _ _ _ _ _ (by omega) (by omega)]
      exact this
  · rw [adP_1 _ _ _ _ _ (by omega) (by omega)] at he
    have := hw.ds he
    rw [adP_0, adP_1 _ _ _ _ 8 (by omega) (by omega), adP_1 _ _ _ _ 9 (by omega) (by omega), adP_1 _ _ _ _ 10 (by omega) (by omega), adP_1 _ _ _ _ 11 (by omega) (by omega), adP_1 _ _ _ _ 12 (by omega) (by omega), adP_1 _ _ _ _ 13 (by omega) (by omega)]
    omega
theorem adP_told (T : tT) (b d : Nat) : toldT (adP T b d) = toldT T ∧ tellT (adP T b d) = tellT T := by
  have e : ∀ k, k < T 0 0 → adP T b d 7 k = T 7 k := fun k hk => adP_1 _ _ _ _ _ (by omega) (by omega)
  constructor
  · unfold toldT
    rw [adP_0, bs_stay (by rw [adP_7]; rfl)]
    apply bs_congr
    intro k hk
    show (adP T b d 7 k == 2) = (T 7 k == 2)
    rw [e k hk]
  · unfold tellT
    rw [adP_0, bs_stay (by rw [adP_7]; rfl)]
    apply bs_congr
    intro k hk
    show decide (adP T b d 7 k ≠ 0) = decide (T 7 k ≠ 0)
    rw [e k hk]
theorem adP_C {T : tT} (hw : twf T) {pe de la to : Int32} {bo di li le br ye lg bg ei : Nat → Int32} (hr : rC T pe de la to bo di li le br ye lg bg ei) (b d : Nat) : rC (adP T b d) (nI (T 0 0 + 1)) de la to (upd bo (T 0 0) (nI b)) (upd di (T 0 0) (nI d)) (upd li (T 0 0) 9) le br ye lg bg ei := by
  obtain ⟨a1, a2, a3, a4, a5, a6⟩ := hr
  refine ⟨by rw [adP_0], by rw [a2, adP_1 _ _ _ _ _ (by omega) (by omega)], by rw [a3, adP_1 _ _ _ _ _ (by omega) (by omega)], by rw [a4, (adP_told T b d).1], fun p hp => ?_, fun e he => ?_⟩
  · rw [adP_0] at hp
    by_cases c : p = T 0 0
    · subst c
      rw [adP_4, adP_5, adP_6, pk_us, pk_us, pk_us]
      exact ⟨rfl, rfl, rfl⟩
    · rw [adP_1 _ _ _ _ _ (by omega) (by omega), adP_1 _ _ _ _ _ (by omega) (by omega), adP_1 _ _ _ _ _ (by omega) (by omega), pk_un c, pk_un c, pk_un c]
      exact a5 p (by omega)
  · rw [adP_1 _ _ _ _ _ (by omega) (by omega)] at he
    rw [adP_1 _ _ _ _ 8 (by omega) (by omega), adP_1 _ _ _ _ 9 (by omega) (by omega), adP_1 _ _ _ _ 10 (by omega) (by omega), adP_1 _ _ _ _ 11 (by omega) (by omega), adP_1 _ _ _ _ 12 (by omega) (by omega), adP_1 _ _ _ _ 13 (by omega) (by omega)]
    exact a6 e he
theorem adP_M {T : tT} (hw : twf T) (hn : T 0 0 < 10) {hh : Nat → Int32} (hr : rM T hh) (b d : Nat) : rM (adP T b d) (upd (upd (upd (upd hh (4 + T 0 0) (nI b)) (14 + T 0 0) (nI d)) (24 + T 0 0) 9) 0 (nI (T 0 0 + 1))) := by
  obtain ⟨⟨a1, a2, a3, a4, a5⟩, a6, a7⟩ := hr
  have hu : ∀ k, k ≠ 0 → k ≠ 4 + T 0 0 → k ≠ 14 + T 0 0 → k ≠ 24 + T 0 0 → upd (upd (upd (upd hh (4 + T 0 0) (nI b)) (14 + T 0 0) (nI d)) (24 + T 0 0) 9) 0 (nI (T 0 0 + 1)) k = hh k := fun k k1 k2 k3 k4 => by
    rw [pk_un k1, pk_un k4, pk_un k3, pk_un k2]
  have hdd := hw.d
  refine ⟨⟨by rw [pk_us, adP_0], ?_, ?_, fun p hp => ?_, fun e he => ?_⟩, ?_, fun k k1 k2 => ?_⟩
  · rw [hu 1 (by omega) (by omega) (by omega) (by omega), adP_1 _ _ _ _ _ (by omega) (by omega)]; exact a2
  · rw [hu 2 (by omega) (by omega) (by omega) (by omega), adP_1 _ _ _ _ _ (by omega) (by omega)]; exact a3
  · rw [adP_0] at hp
    by_cases c : p = T 0 0
    · subst c
      rw [adP_4, adP_5, adP_6, adP_7, hu (34 + T 0 0) (by omega) (by omega) (by omega) (by omega), a7 _ (Nat.le_refl _) hn]
      refine ⟨?_, ?_, ?_, rfl⟩
      · rw [pk_un (by omega), pk_un (by omega), pk_un (by omega), pk_us]
      · rw [pk_un (by omega), pk_un (by omega), pk_us]
      · rw [pk_un (by omega), pk_us]; rfl
    · rw [adP_1 _ _ _ _ 4 (by omega) (by omega), adP_1 _ _ _ _ 5 (by omega) (by omega), adP_1 _ _ _ _ 6 (by omega) (by omega), adP_1 _ _ _ _ 7 (by omega) (by omega), hu (4 + p) (by omega) (by omega) (by omega) (by omega), hu (14 + p) (by omega) (by omega) (by omega) (by omega), hu (24 + p) (by omega) (by omega) (by omega) (by omega), hu (34 + p) (by omega) (by omega) (by omega) (by omega)]
      exact a4 p (by omega)
  · rw [adP_1 _ _ _ _ _ (by omega) (by omega)] at he
    rw [adP_1 _ _ _ _ 8 (by omega) (by omega), adP_1 _ _ _ _ 9 (by omega) (by omega), adP_1 _ _ _ _ 10 (by omega) (by omega), adP_1 _ _ _ _ 11 (by omega) (by omega), adP_1 _ _ _ _ 12 (by omega) (by omega), adP_1 _ _ _ _ 13 (by omega) (by omega), hu (44 + 6 * e) (by omega) (by omega) (by omega) (by omega), hu (44 + 6 * e + 1) (by omega) (by omega) (by omega) (by omega), hu (44 + 6 * e + 2) (by omega) (by omega) (by omega) (by omega), hu (44 + 6 * e + 3) (by omega) (by omega) (by omega) (by omega), hu (44 + 6 * e + 4) (by omega) (by omega) (by omega) (by omega), hu (44 + 6 * e + 5) (by omega) (by omega) (by omega) (by omega)]
    exact a5 e he
  · rw [hu 3 (by omega) (by omega) (by omega) (by omega)]; exact a6
  · rw [adP_0] at k1
    rw [hu (34 + k) (by omega) (by omega) (by omega) (by omega)]
    exact a7 k (by omega) k2
theorem nms_more {n off to : Nat} {cn mn : Nat → Int64} (hn : nmsR n off cn mn) (hto : to = off + n) {x y : Int64} (hxy : nmR x y) : nmsR (n + 1) off (vp_updL cn n x) (vp_updL mn to y) := by
  intro k hk
  by_cases c : k = n
  · subst c; rw [hto, pk_uLs, pk_uLs]; exact hxy
  · rw [pk_uLn c, pk_uLn (by omega)]; exact hn k (by omega)
theorem nms_same {n off to : Nat} {cn mn : Nat → Int64} (hn : nmsR n off cn mn) (hto : to < off ∨ off + n ≤ to) (y : Int64) : nmsR n off cn (vp_updL mn to y) := by
  intro k hk
  rw [pk_uLn (by omega)]; exact hn k hk
