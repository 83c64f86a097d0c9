/-! ===== pure rows: the line of a DEAL ===== -/
def adD (T : tT) (a b y g e x : Nat) : tT := fun f i => if f = 1 then T 1 0 + 1 else if i = T 1 0 ∧ f = 8 then a else if i = T 1 0 ∧ f = 9 then b else if i = T 1 0 ∧ f = 10 then y else if i = T 1 0 ∧ f = 11 then g else if i = T 1 0 ∧ f = 12 then e else if i = T 1 0 ∧ f = 13 then x else T f i
theorem adD_1 (T : tT) (a b y g e x i : Nat) : adD T a b y g e x 1 i = T 1 0 + 1 := rfl
theorem adD_n (T : tT) {a b y g e x f i : Nat} (h1 : f ≠ 1) (h : f < 8 ∨ i ≠ T 1 0) : adD T a b y g e x f i = T f i := by
  unfold adD
  rw [if_neg h1, if_neg (by omega), if_neg (by omega), if_neg (by omega), if_neg (by omega), if_neg (by omega), if_neg (by omega)]
theorem adD_s (T : tT) (a b y g e x : Nat) : adD T a b y g e x 8 (T 1 0) = a ∧ adD T a b y g e x 9 (T 1 0) = b ∧ adD T a b y g e x 10 (T 1 0) = y ∧ adD T a b y g e x 11 (T 1 0) = g ∧ adD T a b y g e x 12 (T 1 0) = e ∧ adD T a b y g e x 13 (T 1 0) = x := by
  unfold adD
  refine ⟨?_, ?_, ?_, ?_, ?_, ?_⟩ <;> simp
theorem adD_wf {T : tT} (hw : twf T) {a b y g e x : Nat} (hd : T 1 0 < 30) (h1 : a < T 0 0) (h2 : b < T 0 0) (h3 : a ≠ b) (h4 : y ≤ 59) (h5 : g ≤ 99) (h6 : e ≤ 99) (h7 : x ≤ 1) : twf (adD T a b y g e x) := by
  refine ⟨by rw [adD_n T (by omega) (by omega)]; exact hw.p, by rw [adD_1]; omega, by rw [adD_n T (by omega) (by omega)]; exact hw.n, fun p hp => ?_, fun d hd => ?_⟩
  · rw [adD_n T (by omega) (by omega)] at hp
    rw [adD_n T (f := 4) (by omega) (by omega), adD_n T (f := 5) (by omega) (by omega), adD_n T (f := 6) (by omega) (by omega), adD_n T (f := 7) (by omega) (by omega)]
    exact hw.ps hp
  · rw [adD_1] at hd
    rw [adD_n T (f := 0) (by omega) (by omega)]
    by_cases c : d = T 1 0
    · subst c
      obtain ⟨s1, s2, s3, s4, s5, s6⟩ := adD_s T a b y g e x
      rw [s1, s2, s3, s4, s5, s6]
      exact ⟨h1, h2, h3, h4, h5, h6, h7⟩
    · rw [adD_n T (f := 8) (by omega) (Or.inr c), adD_n T (f := 9) (by omega) (Or.inr c), adD_n T (f := 10) (by omega) (Or.inr c), adD_n T (f := 11) (by omega) (Or.inr c), adD_n T (f := 12) (by omega) (Or.inr c), adD_n T (f := 13) (by omega) (Or.inr c)]
      exact hw.ds (by omega)
theorem adD_told (T : tT) (a b y g e x : Nat) : toldT (adD T a b y g e x) = toldT T ∧ tellT (adD T a b y g e x) = tellT T := by
  have e1 : ∀ j, adD T a b y g e x 7 j = T 7 j := fun j => adD_n T (by omega) (by omega)
  have e0 : adD T a b y g e x 0 0 = T 0 0 := adD_n T (by omega) (by omega)
  unfold toldT tellT
  rw [e0]
  exact ⟨bs_congr _ (fun j _ => by show (adD T a b y g e x 7 j == 2) = _; rw [e1]), bs_congr _ (fun j _ => by show decide (adD T a b y g e x 7 j ≠ 0) = _; rw [e1])⟩
theorem adD_C {T : tT} {pe de la to : Int32} {bo di li le br ye lg bg ei : Nat → Int32} (hr : rC T pe de la to bo di li le br ye lg bg ei) (a b y g e x : Nat) : rC (adD T a b y g e x) pe (nI (T 1 0 + 1)) la to bo di li (upd le (T 1 0) (nI a)) (upd br (T 1 0) (nI b)) (upd ye (T 1 0) (nI y)) (upd lg (T 1 0) (nI g)) (upd bg (T 1 0) (nI e)) (upd ei (T 1 0) (nI x)) := by
  obtain ⟨a1, a2, a3, a4, a5, a6⟩ := hr
  refine ⟨by rw [adD_n T (by omega) (by omega)]; exact a1, by rw [adD_1], by rw [adD_n T (by omega) (by omega)]; exact a3, by rw [(adD_told T a b y g e x).1]; exact a4, fun p hp => ?_, fun d hd => ?_⟩
  · rw [adD_n T (by omega) (by omega)] at hp
    rw [adD_n T (f := 4) (by omega) (by omega), adD_n T (f := 5) (by omega) (by omega), adD_n T (f := 6) (by omega) (by omega)]
    exact a5 p hp
  · rw [adD_1] at hd
    by_cases c : d = T 1 0
    · subst c
      obtain ⟨s1, s2, s3, s4, s5, s6⟩ := adD_s T a b y g e x
      rw [s1, s2, s3, s4, s5, s6, pk_us, pk_us, pk_us, pk_us, pk_us, pk_us]
      exact ⟨rfl, rfl, rfl, rfl, rfl, rfl⟩
    · rw [adD_n T (f := 8) (by omega) (Or.inr c), adD_n T (f := 9) (by omega) (Or.inr c), adD_n T (f := 10) (by omega) (Or.inr c), adD_n T (f := 11) (by omega) (Or.inr c), adD_n T (f := 12) (by omega) (Or.inr c), adD_n T (f := 13) (by omega) (Or.inr c), pk_un c, pk_un c, pk_un c, pk_un c, pk_un c, pk_un c]
      exact a6 d (by omega)
theorem adD_M {T : tT} (hw : twf T) {hh h' : Nat → Int32} (hr : rM T hh) (hd0 : T 1 0 < 30) {a b y g e x : Nat} (u1 : h' 1 = nI (T 1 0 + 1)) (u2 : h' (44 + 6 * T 1 0) = nI a ∧ h' (44 + 6 * T 1 0 + 1) = nI b ∧ h' (44 + 6 * T 1 0 + 2) = nI y ∧ h' (44 + 6 * T 1 0 + 3) = nI g ∧ h' (44 + 6 * T 1 0 + 4) = nI e ∧ h' (44 + 6 * T 1 0 + 5) = nI x) (u3 : ∀ k, k ≠ 1 → k < 44 + 6 * T 1 0 → h' k = hh k) : rM (adD T a b y g e x) h' := by
  obtain ⟨⟨a1, a2, a3, a4, a5⟩, a6, a7⟩ := hr
  have hn := hw.p
  refine ⟨⟨by rw [adD_n T (by omega) (by omega), u3 0 (by omega) (by omega)]; exact a1, by rw [adD_1]; exact u1, by rw [adD_n T (by omega) (by omega), u3 2 (by omega) (by omega)]; exact a3, fun p hp => ?_, fun d hd => ?_⟩, by rw [u3 3 (by omega) (by omega)]; exact a6, fun j j1 j2 => ?_⟩
  · rw [adD_n T (by omega) (by omega)] at hp
    rw [adD_n T (f := 4) (by omega) (by omega), adD_n T (f := 5) (by omega) (by omega), adD_n T (f := 6) (by omega) (by omega), adD_n T (f := 7) (by omega) (by omega), u3 (4 + p) (by omega) (by omega), u3 (14 + p) (by omega) (by omega), u3 (24 + p) (by omega) (by omega), u3 (34 + p) (by omega) (by omega)]
    exact a4 p hp
  · rw [adD_1] at hd
    by_cases c : d = T 1 0
    · subst c
      obtain ⟨s1, s2, s3, s4, s5, s6⟩ := adD_s T a b y g e x
      rw [s1, s2, s3, s4, s5, s6]
      exact u2
    · rw [adD_n T (f := 8) (by omega) (Or.inr c), adD_n T (f := 9) (by omega) (Or.inr c), adD_n T (f := 10) (by omega) (Or.inr c), adD_n T (f := 11) (by omega) (Or.inr c), adD_n T (f := 12) (by omega) (Or.inr c), adD_n T (f := 13) (by omega) (Or.inr c), u3 (44 + 6 * d) (by omega) (by omega), u3 (44 + 6 * d + 1) (by omega) (by omega), u3 (44 + 6 * d + 2) (by omega) (by omega), u3 (44 + 6 * d + 3) (by omega) (by omega), u3 (44 + 6 * d + 4) (by omega) (by omega), u3 (44 + 6 * d + 5) (by omega) (by omega)]
      exact a5 d (by omega)
  · rw [adD_n T (by omega) (by omega)] at j1
    rw [u3 (34 + j) (by omega) (by omega)]
    exact a7 j j1 j2
def loT (T : tT) (a b : Nat) : Nat := if T 4 a < T 4 b then T 4 b else T 4 a
def hiT (T : tT) (a b : Nat) : Nat := if T 5 b < T 5 a then T 5 b else T 5 a
/-- the gains and what follows them -/
theorem c_gains {O : Nat → Nat} {by_ ta : Nat → Int32} (h : ∀ k, k < 940 → O k < 256 ∧ by_ k = sbT (O k)) (h2 : ∀ k, k < 940 → O k < 256 ∧ ta k = sbT (O k)) {L M p : Nat} (hL : L ≤ 940) (hM : M ≤ 940) (hp : p ≤ L) {d : Nat} (hd : d < 30) (ki pl to tp tn : Int32) (tna : Int64) (lg bg ei : Nat → Int32) : (¬ numOK O L M p 0 99 → ∃ q, dn_X6_readGains ki pl (nI L) to tp tn tna (nI p) (nI (min L M)) by_ (nI d) bg ei lg (nI d) = some q ∧ q.1 = false ∧ q.2.2.2.2.2.2.1 = nI (numF O L M p) ∧ q.2.2.2.2.2.2.2.1 = nI (tkA O L M p)) ∧ (numOK O L M p 0 99 → (¬ numOK O L M (tkE O L p) 0 99 → ∃ q, dn_X6_readGains ki pl (nI L) to tp tn tna (nI p) (nI (min L M)) by_ (nI d) bg ei lg (nI d) = some q ∧ q.1 = false ∧ q.2.2.2.2.2.2.1 = nI (numF O L M (tkE O L p)) ∧ q.2.2.2.2.2.2.2.1 = nI (tkA O L M (tkE O L p))) ∧ (numOK O L M (tkE O L p) 0 99 → ∀ pS x, ((isW O L M (tkE O L (tkE O L p)) 3 = true ∧ x = 1 ∧ pS = tkE O L (tkE O L (tkE O L p))) ∨ (isW O L M (tkE O L (tkE O L p)) 3 = false ∧ x = 0 ∧ pS = tkE O L (tkE O L p))) → (tkK O L M pS = 3 → ∃ q, dn_X6_readGains ki pl (nI L) to tp tn tna (nI p) (nI (min L M)) by_ (nI d) bg ei lg (nI d) = some q ∧ q.1 = true ∧ q.2.1 = nI (tkE O L pS) ∧ q.2.2.2.2.2.2.1 = ki ∧ q.2.2.2.2.2.2.2.1 = pl ∧ q.2.2.2.2.2.2.2.2.1 = upd lg d (nI (tkV O L p)) ∧ q.2.2.2.2.2.2.2.2.2.1 = upd bg d (nI (tkV O L (tkE O L p))) ∧ q.2.2.2.2.2.2.2.2.2.2.1 = upd ei d (nI x) ∧ q.2.2.2.2.2.2.2.2.2.2.2 = nI (d + 1)) ∧ (tkK O L M pS ≠ 3 → ∃ q, dn_X6_readGains ki pl (nI L) to tp tn tna (nI p) (nI (min L M)) by_ (nI d) bg ei lg (nI d) = some q ∧ q.1 = false ∧ q.2.2.2.2.2.2.1 = 1 ∧ q.2.2.2.2.2.2.2.1 = nI (tkA O L M pS)))) := by
  have id30 := inb_nI hd (show 30 < 2 ^ 31 by omega)
  obtain ⟨a1, a2⟩ := c_numX h h2 hL hM hp (lo := 0) (hi := 99) (by omega) (by omega) (x := 0) (y := 99) rfl rfl ki pl to tp tn tna
  unfold dn_X6_readGains
  refine ⟨fun c => ?_, fun c => ?_⟩
  · obtain ⟨_, _, _, _, g⟩ := a2 c
    rw [g, Option.bind_some, if_neg Bool.false_ne_true]
    exact ⟨_, rfl, rfl, rfl, rfl⟩
  · obtain ⟨na1, to1, g1⟩ := a1 c
    obtain ⟨e5, e6, e7, e8⟩ := tkE_le hp (Or.inr (Or.inl c.1))
    obtain ⟨b1, b2⟩ := c_numX h h2 hL hM e6 (lo := 0) (hi := 99) (by omega) (by omega) (x := 0) (y := 99) rfl rfl ki pl to1 (nI (tkA O L M p)) (nI (tkV O L p)) na1
    rw [g1, Option.bind_some, if_pos rfl, id30, if_pos rfl]
    refine ⟨fun c2 => ?_, fun c2 pS x hx => ?_⟩
    · obtain ⟨_, _, _, _, g⟩ := b2 c2
      rw [g, Option.bind_some, if_neg Bool.false_ne_true]
      exact ⟨_, rfl, rfl, rfl, rfl⟩
    · obtain ⟨na2, to2, g2⟩ := b1 c2
      obtain ⟨e9, e10, e11, e12⟩ := tkE_le e6 (Or.inr (Or.inl c2.1))
      obtain ⟨ps3, nu3, na3, to3, t3, hc3⟩ := c_next h (M := M) hL e10 to2 (nI (tkA O L M (tkE O L p))) (nI (tkV O L (tkE O L p))) na2
      rw [g2, Option.bind_some, if_pos rfl, if_pos rfl, t3, Option.bind_some]
      simp only
      rw [c_isWord h hL hc3 (i := 3) (by omega), Option.bind_some, nI_clamp (show d < 2 ^ 31 by omega)]
      rcases hx with ⟨x1, x2, x3⟩ | ⟨x1, x2, x3⟩
      · have k4 := (isW_1 x1).1
        obtain ⟨e13, e14, e15, e16⟩ := tkE_le e10 (Or.inl k4)
        obtain ⟨ps4, nu4, na4, to4, t4, hc4⟩ := c_next h (M := M) hL e14 to3 (nI (tkA O L M (tkE O L (tkE O L p)))) nu3 na3
        obtain ⟨y1, y2⟩ := c_atS hc4 ki pl
        rw [if_pos x1, gq_X6_readGains_0, id30, if_pos rfl, if_pos rfl, nI_clamp (show d < 2 ^ 31 by omega), pk_us, if_pos rfl, (hc3.2.1 k4).2.1, t4, Option.bind_some]
        simp only [gq_X6_readGains_1]
        subst x2 x3
        refine ⟨fun z => ?_, fun z => ?_⟩
        · rw [y1 z, Option.bind_some, (hc4.2.2.2.1 z).2, nI_1]
          exact ⟨_, rfl, rfl, rfl, rfl, rfl, rfl, rfl, rfl, rfl⟩
        · rw [y2 z, Option.bind_some]
          exact ⟨_, rfl, rfl, rfl, rfl⟩
      · obtain ⟨y1, y2⟩ := c_atS hc3 ki pl
        rw [x1, if_neg Bool.false_ne_true, gq_X6_readGains_0, id30, if_pos rfl, if_pos rfl, nI_clamp (show d < 2 ^ 31 by omega), pk_us, if_neg (by decide), gq_X6_readGains_1]
        subst x2 x3
        refine ⟨fun z => ?_, fun z => ?_⟩
        · rw [y1 z, Option.bind_some, (hc3.2.2.2.1 z).2, nI_1]
          exact ⟨_, rfl, rfl, rfl, rfl, rfl, rfl, rfl, rfl, rfl⟩
        · rw [y2 z, Option.bind_some]
          exact ⟨_, rfl, rfl, rfl, rfl⟩
