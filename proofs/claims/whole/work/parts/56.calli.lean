/-! ===== pure rows: rounds; counting bits; the fewest lenders ===== -/
def rdK (T : tT) (P : Nat) : Nat → Nat
  | 0 => P
  | k + 1 => if moreT T (rdK T P k) k = true then rdK T P k ^^^ 2 ^ k else rdK T P k
def rdT (T : tT) (P : Nat) : Nat := rdK T P (T 0 0)
theorem rdK_lt {T : tT} {P : Nat} (hP : P < 2 ^ T 0 0) : ∀ k, k ≤ T 0 0 → rdK T P k < 2 ^ T 0 0
  | 0, _ => hP
  | k + 1, h => by
    have ih := rdK_lt hP k (by omega)
    unfold rdK
    split
    · exact pz_xorT ih (by omega)
    · exact ih
theorem rdK_bit (T : tT) (P : Nat) : ∀ (k j : Nat), k ≤ j → (rdK T P k).testBit j = P.testBit j
  | 0, j, _ => rfl
  | k + 1, j, h => by
    have ih := rdK_bit T P k j (by omega)
    unfold rdK
    split
    · rw [Nat.testBit_xor, ih, Nat.testBit_two_pow_of_ne (by omega)]; simp
    · exact ih
theorem c_behindOne (T : tT) (hw : twf T) (b : Nat → Int32) (hb : ∀ d, d < T 1 0 → b d = nI (T 9 d)) (h : Nat → Int32) (hh : ∀ d, d < T 1 0 → h d = nI (T 12 d)) (e : Nat → Int32) (he : ∀ d, d < T 1 0 → e d = nI (T 13 d)) (l : Nat → Int32) (hl : ∀ d, d < T 1 0 → l d = nI (T 8 d)) (g : Nat → Int32) (hg : ∀ d, d < T 1 0 → g d = nI (T 11 d)) {P : Nat} (hP : P < 2 ^ T 0 0) : dn_X7_behindOne (nI (T 0 0)) (nI (T 1 0)) b h e l g (nI P) = some (nI (rdT T P)) := by
  have hp := hw.p
  have hp10 := pz_10 hw.p
  have key := pz_fun (fun k (a : Nat) => gn_X7_behindOne_0 (nI (T 0 0)) (nI (T 1 0)) b h e l g (nI a) (nI k)) (rdK T P) (T 0 0) (by
    intro k hk
    show gn_X7_behindOne_0 _ _ _ _ _ _ _ _ _ = gn_X7_behindOne_0 _ _ _ _ _ _ _ _ _
    have h1 := rdK_lt hP k (by omega)
    have h2 : rdK T P (k + 1) = if moreT T (rdK T P k) k = true then rdK T P k ^^^ 2 ^ k else rdK T P k := rfl
    rw [gq_X7_behindOne_0, if_neg (nI_ge hk (by omega)), c_hasMore T hw b hb h hh e he l hl g hg (by omega) (by omega), Option.bind_some, pz_1shl (by omega), pz_xor, nI_1, h2]
    split <;> rfl) (T 0 0) (Nat.le_refl _)
  have key' : dn_X7_behindOne (nI (T 0 0)) (nI (T 1 0)) b h e l g (nI P) = gn_X7_behindOne_0 (nI (T 0 0)) (nI (T 1 0)) b h e l g (nI (rdT T P)) (nI (T 0 0)) := key
  rw [key', gq_X7_behindOne_0, if_pos (nI_le (Nat.le_refl _) (by omega))]
def seenO (W : Nat → Nat) (k : Nat) (br : Nat → Int32) : Prop := ∀ Q, Q < 1024 → br Q = match fo (fun j => W j == Q) (k + 1) with | some j => nI j | none => -1
theorem seenO_up {W : Nat → Nat} {k : Nat} {br : Nat → Int32} (h : seenO W k br) (hn : ∀ j, j < k + 1 → W j ≠ W (k + 1)) : seenO W (k + 1) (upd br (W (k + 1)) (nI (k + 1))) := by
  intro Q hQ
  have e : fo (fun j => W j == Q) (k + 1 + 1) = match fo (fun j => W j == Q) (k + 1) with | some j => some j | none => if (W (k + 1) == Q) = true then some (k + 1) else none := rfl
  rw [e]
  by_cases c : Q = W (k + 1)
  · subst c
    rw [pk_us, (fo_none _ _).mpr (fun j hj => by simp [hn j hj])]
    simp
  · rw [pk_un c, h Q hQ]
    cases fo (fun j => W j == Q) (k + 1) with
    | some j => rfl
    | none =>
      have : (W (k + 1) == Q) = false := by simp; omega
      simp [this]
theorem rounds_end {W : Nat → Nat} (hW : ∀ k, W k < 1024) : ∃ K, K < 1024 ∧ (∃ j, j < K + 1 ∧ W j = W (K + 1)) ∧ ∀ k, k < K → ∀ j, j < k + 1 → W j ≠ W (k + 1) := by
  cases h : fo (fun k => hitB W 0 (k + 1) (W (k + 1))) 1024 with
  | some K =>
    obtain ⟨a, b, c⟩ := fo_some _ _ _ h
    obtain ⟨j, _, j2, j3⟩ := hit_iff.mp b
    exact ⟨K, a, ⟨j, j2, j3⟩, fun k hk j hj e => by
      have := c k hk
      rw [hit_t ⟨j, by omega, hj, e⟩] at this
      cases this⟩
  | none =>
    exfalso
    have hn := (fo_none _ _).mp h
    have := pz_pigeon 1024 1025 W (fun i _ => hW i) (fun i j hij hj e => by
      have := hn (j - 1) (by omega)
      rw [show j - 1 + 1 = j from by omega, hit_t ⟨i, by omega, hij, e⟩] at this
      cases this)
    omega
def ringOK (kn lp ln he : Int32) (eb : Nat → Int32) : Prop := kn = he ∧ (kn = 0 ∨ kn = 1) ∧ (kn = 1 → lp = eb 0 ∧ ln = eb 1)
theorem j_rounds (T : tT) (hw : twf T) (b : Nat → Int32) (hb : ∀ d, d < T 1 0 → b d = nI (T 9 d)) (h : Nat → Int32) (hh : ∀ d, d < T 1 0 → h d = nI (T 12 d)) (e : Nat → Int32) (he : ∀ d, d < T 1 0 → e d = nI (T 13 d)) (l : Nat → Int32) (hl : ∀ d, d < T 1 0 → l d = nI (T 8 d)) (g : Nat → Int32) (hg : ∀ d, d < T 1 0 → g d = nI (T 11 d)) (s : Nat → Int32) (hs : mT T s) {kn lp ln he' : Int32} {eb : Nat → Int32} (hr : ringOK kn lp ln he' eb) (br sn : Nat → Int32) (p1 : Int32) : ∃ q1, dn_X11_rounds (nI (T 0 0)) (nI (T 1 0)) b h e l g kn lp ln br p1 = some q1 ∧ ∃ q2, dn_X12_rounds he' eb s sn p1 = some q2 ∧ q1.1 = q2.1 ∧ ringOK q1.2.2.1 q1.2.2.2.1 q1.2.2.2.2 q2.2.2.2.1 q2.2.2.2.2 := by
  have hp := hw.p
  have hp10 := pz_10 hw.p
  unfold dn_X11_rounds dn_X12_rounds
  rcases pz_ix p1 (n := 2 ^ T 0 0) (by omega) with hp | ⟨P, hP, rfl⟩
  · rw [c_hasParts_f hw.p hp, m_isParts_f T hw s hs hp]
    exact ⟨_, rfl, _, rfl, rfl, hr⟩
  · have hWl : ∀ k, itF (rdT T) P k < 2 ^ T 0 0 := by
      intro k
      induction k with
      | zero => exact hP
      | succ k ih => exact rdK_lt ih (T 0 0) (Nat.le_refl _)
    obtain ⟨K, hK, ⟨j0, hj0, ej0⟩, hno⟩ := rounds_end (W := itF (rdT T) P) (fun k => by have := hWl k; omega)
    rw [c_hasParts_t hw.p hP, m_isParts_t T hw s hs hP, Option.bind_some, Option.bind_some, if_pos rfl, if_pos rfl]
    have hs0 : ∀ f : Nat → Int32, (∀ Q, Q < 1024 → f Q = -1) → seenO (itF (rdT T) P) 0 (upd f P 0) := by
      intro f hf Q hQ
      have e : fo (fun j => itF (rdT T) P j == Q) (0 + 1) = if (P == Q) = true then some 0 else none := rfl
      rw [e]
      by_cases c : Q = P
      · subst c; rw [pk_us]; simp; rfl
      · rw [pk_un c, hf Q hQ]
        have : (P == Q) = false := by simp; omega
        simp [this]
    have eW : ∀ k, rdT T (itF (rdT T) P k) = itF (rdT T) P (k + 1) := fun _ => rfl
    have hfo : ∃ j, j < K + 1 ∧ fo (fun j => itF (rdT T) P j == itF (rdT T) P (K + 1)) (K + 1) = some j := by
      cases c : fo (fun j => itF (rdT T) P j == itF (rdT T) P (K + 1)) (K + 1) with
      | none =>
        have := (fo_none _ _).mp c j0 hj0
        simp [ej0] at this
      | some j => exact ⟨j, (fo_some _ _ _ c).1, rfl⟩
    obtain ⟨j1, hj1, ej1⟩ := hfo
    -- the class
    obtain ⟨q, h1, h2⟩ := pz_rel0 (fun k (q : Nat → Int32) => gn_X7_follow_0 (nI (T 0 0)) (nI (T 1 0)) b h e l g (nI (k + 1)) q 1 (nI (itF (rdT T) P k)) 0) K (fun k q => seenO (itF (rdT T) P) k q) (upd (jfill 1024 br (-1)) P 0) (hs0 _ (fun Q hQ => by unfold jfill; rw [if_pos hQ])) (by
      intro k q hk hq
      have hn := hno k hk
      refine ⟨upd q (itF (rdT T) P (k + 1)) (nI (k + 1)), seenO_up hq hn, ?_⟩
      show gn_X7_follow_0 _ _ _ _ _ _ _ _ _ _ _ _ = gn_X7_follow_0 _ _ _ _ _ _ _ _ _ _ _ _
      have hl1 := hWl k
      have hl2 := hWl (k + 1)
      have hne : ¬ nI (itF (rdT T) P (k + 1)) = nI (itF (rdT T) P k) := by
        rw [pz_eq (by omega) (by omega)]
        exact fun x => hn k (by omega) x.symm
      have hbr : q (itF (rdT T) P (k + 1)) = -1 := by
        rw [hq _ (by omega), (fo_none _ _).mpr (fun j hj => by simp [hn j hj])]
      rw [gq_X7_follow_0, if_neg (show ¬ (1024 : Int32) < nI (k + 1) from nI_nlt (b := k + 1) (a := 1024) (by omega) (by omega)), c_behindOne T hw b hb h hh e he l hl g hg (hWl k), Option.bind_some, eW k]
      rw [if_neg hne, inb_nI (by omega) (by omega), if_pos rfl, if_pos rfl, nI_clamp (by omega), if_pos hbr, nI_1])
    have hl1 := hWl K
    have hl2 := hWl (K + 1)
    have hbK : q (itF (rdT T) P (K + 1)) = nI j1 := by rw [h1 _ (by omega), ej1]
    have hc : ∃ bb, dn_X7_follow br (nI (T 0 0)) (nI (T 1 0)) b h e l g (nI P) = some (nI (K + 1), bb, 1, nI (itF (rdT T) P (K + 1)), if itF (rdT T) P (K + 1) = itF (rdT T) P K then 0 else nI (K + 1) - nI j1) := by
      unfold dn_X7_follow
      rw [inb_nI (by omega) (by omega), if_pos rfl, nI_clamp (by omega)]
      have : gn_X7_follow_0 (nI (T 0 0)) (nI (T 1 0)) b h e l g 1 (upd (jfill 1024 br (-1)) P 0) 1 (nI P) 0 = gn_X7_follow_0 (nI (T 0 0)) (nI (T 1 0)) b h e l g (nI (K + 1)) q 1 (nI (itF (rdT T) P K)) 0 := h2
      rw [this, gq_X7_follow_0, if_neg (show ¬ (1024 : Int32) < nI (K + 1) from nI_nlt (b := K + 1) (a := 1024) (by omega) (by omega)), c_behindOne T hw b hb h hh e he l hl g hg (hWl K), Option.bind_some, eW K]
      rw [inb_nI (by omega) (by omega), nI_clamp (by omega), hbK]
      simp only [pz_eq (show itF (rdT T) P (K + 1) < 2 ^ 31 by omega) (show itF (rdT T) P K < 2 ^ 31 by omega), pz_n0 (show j1 < 2 ^ 31 by omega), if_true, if_false]
      by_cases c : itF (rdT T) P (K + 1) = itF (rdT T) P K
      · rw [if_pos c, if_pos c, c]; exact ⟨_, rfl⟩
      · rw [if_neg c, if_neg c]; exact ⟨_, rfl⟩
    obtain ⟨bb, hc⟩ := hc
    -- the model: one round
    have hround : ∀ (k : Nat) (x : Nat), x < 2 ^ T 0 0 → ∀ (sn : Nat → Int32) (eb : Nat → Int32), gn_X12_rounds_1 s (nI P) (nI x) (nI k) 0 sn 1 eb = if rdT T x = x then some (nI (k + 1), 0, sn, 1, upd (upd eb 0 (nI (rdT T x))) 1 0) else gn_X12_rounds_3 s (nI P) (nI (rdT T x)) (nI (k + 1)) 0 sn 1 (upd (upd eb 0 (nI (rdT T x))) 1 0) := by
      intro k x hx sn eb
      obtain ⟨fl, f1, f2⟩ := pz_rel0 (fun p (fl : Nat) => gn_X12_rounds_2 s (nI P) (nI (rdK T x p)) (nI k) (nI x) (nI fl) (nI p) 0 sn 1 eb) (T 0 0) (fun p fl => fl ≤ 1 ∧ (fl = 0 → rdK T x p = x) ∧ (fl = 1 → ∃ r, r < p ∧ (rdK T x p).testBit r ≠ x.testBit r)) 0 ⟨by omega, fun _ => rfl, fun h => (by cases h)⟩ (by
        rintro p fl hp2 ⟨f1, f2, f3⟩
        have h1 := rdK_lt hx p (by omega)
        have h2 : rdK T x (p + 1) = if moreT T (rdK T x p) p = true then rdK T x p ^^^ 2 ^ p else rdK T x p := rfl
        have o1 := ownT_le hw p (rdK T x p)
        have o2 := ownT_le hw p (rdK T x p ^^^ 2 ^ p)
        have hx2 := pz_xorT h1 (show p < T 0 0 from hp2)
        have hq : gn_X12_rounds_2 s (nI P) (nI (rdK T x p)) (nI k) (nI x) (nI fl) (nI p) 0 sn 1 eb = if moreT T (rdK T x p) p = true then gn_X12_rounds_2 s (nI P) (nI (rdK T x p ^^^ 2 ^ p)) (nI k) (nI x) (nI 1) (nI (p + 1)) 0 sn 1 eb else gn_X12_rounds_2 s (nI P) (nI (rdK T x p)) (nI k) (nI x) (nI fl) (nI (p + 1)) 0 sn 1 eb := by
          rw [gq_X12_rounds_2, pz_c0, hs.1, if_neg (nI_ge hp2 (by omega)), pz_1shl (by omega), pz_xor, m_ownOf T hw s hs (by omega) (by omega), Option.bind_some, m_ownOf T hw s hs (by omega) (by omega), Option.bind_some, nI_1]
          simp only [pz_lt (show ownT T p (rdK T x p) < 2 ^ 31 by omega) (show ownT T p (rdK T x p ^^^ 2 ^ p) < 2 ^ 31 by omega)]
          unfold moreT
          simp only [decide_eq_true_eq]
          rfl
        by_cases c : moreT T (rdK T x p) p = true
        · rw [if_pos c] at hq h2
          refine ⟨1, ⟨Nat.le_refl 1, fun h => (by cases h), fun _ => ⟨p, by omega, ?_⟩⟩, ?_⟩
          · rw [h2, Nat.testBit_xor, rdK_bit T x p p (Nat.le_refl p), Nat.testBit_two_pow_self]
            cases x.testBit p <;> decide
          · show gn_X12_rounds_2 _ _ _ _ _ _ _ _ _ _ _ = gn_X12_rounds_2 _ _ _ _ _ _ _ _ _ _ _
            rw [hq, h2]
        · rw [if_neg c] at hq h2
          refine ⟨fl, ⟨f1, fun h => by rw [h2]; exact f2 h, fun h => ?_⟩, ?_⟩
          · obtain ⟨r, r1, r2⟩ := f3 h
            exact ⟨r, by omega, by rw [h2]; exact r2⟩
          · show gn_X12_rounds_2 _ _ _ _ _ _ _ _ _ _ _ = gn_X12_rounds_2 _ _ _ _ _ _ _ _ _ _ _
            rw [hq, h2])
      have f3 : gn_X12_rounds_1 s (nI P) (nI x) (nI k) 0 sn 1 eb = gn_X12_rounds_2 s (nI P) (nI (rdT T x)) (nI k) (nI x) (nI fl) (nI (T 0 0)) 0 sn 1 eb := by
        rw [gq_X12_rounds_1]; exact f2
      have hx3 := rdK_lt hx (T 0 0) (Nat.le_refl _)
      have hx4 : rdT T x < 2 ^ T 0 0 := hx3
      rw [f3, gq_X12_rounds_2, pz_c0, hs.1, if_pos (nI_le (Nat.le_refl _) (by omega)), show (1 : Int32).toNatClampNeg = 1 from rfl, nI_1]
      by_cases c : fl = 0
      · subst c
        have := f1.2.1 rfl
        have e1 : rdT T x = x := this
        rw [if_pos (show nI 0 = 0 from rfl), if_pos (by rw [e1]), if_pos e1]
      · have e : fl = 1 := by omega
        subst e
        obtain ⟨r, r1, r2⟩ := f1.2.2 rfl
        have e1 : ¬ rdT T x = x := fun y => r2 (by
          show (rdT T x).testBit r = _
          rw [y])
        rw [if_neg (show ¬ nI 1 = 0 by decide), if_neg e1]
    obtain ⟨sn1, n1, n2⟩ := pz_rel0 (fun k (q : Nat → Int32) => gn_X12_rounds_0 s (nI P) (nI k) 0 q he' eb) 1024 (fun k q => ∀ Q, Q < k → q Q = -1) sn (fun Q hQ => by omega) (by
      intro k q hk hq
      refine ⟨upd q k (-1), fun Q hQ => ?_, ?_⟩
      · by_cases c : Q = k
        · subst c; rw [pk_us]
        · rw [pk_un c]; exact hq Q (by omega)
      · show gn_X12_rounds_0 _ _ _ _ _ _ _ = gn_X12_rounds_0 _ _ _ _ _ _ _
        rw [gq_X12_rounds_0, if_neg (show ¬ (1024 : Int32) ≤ nI k from nI_ge (b := 1024) (by omega) (by omega)), inb_nI (by omega) (by omega), if_pos rfl, nI_clamp (by omega), nI_1])
    have n3 : gn_X12_rounds_0 s (nI P) 0 0 sn he' eb = gn_X12_rounds_1 s (nI P) (nI P) (nI 0) 0 (upd sn1 P 0) 1 eb := by
      have : gn_X12_rounds_0 s (nI P) 0 0 sn he' eb = gn_X12_rounds_0 s (nI P) (nI 1024) 0 sn1 he' eb := n2
      rw [this, gq_X12_rounds_0, if_pos (show (1024 : Int32) ≤ nI 1024 by decide), inb_nI (by omega) (by omega), if_pos rfl, nI_clamp (by omega)]
      rfl
    obtain ⟨z, z1, z2⟩ := pz_rel0 (fun k (z : (Nat → Int32) × (Nat → Int32)) => gn_X12_rounds_1 s (nI P) (nI (itF (rdT T) P k)) (nI k) 0 z.1 1 z.2) K (fun k z => seenO (itF (rdT T) P) k z.1) (upd sn1 P 0, eb) (hs0 sn1 n1) (by
      rintro k ⟨sn, eb⟩ hk hq
      have hq' : seenO (itF (rdT T) P) k sn := hq
      have hn := hno k hk
      have hl1 := hWl k
      have hl2 := hWl (k + 1)
      have hbr : sn (itF (rdT T) P (k + 1)) = -1 := by
        rw [hq' _ (by omega), (fo_none _ _).mpr (fun j hj => by simp [hn j hj])]
      refine ⟨(upd sn (itF (rdT T) P (k + 1)) (nI (k + 1)), upd (upd eb 0 (nI (itF (rdT T) P (k + 1)))) 1 0), seenO_up hq' hn, ?_⟩
      show gn_X12_rounds_1 s (nI P) (nI (itF (rdT T) P k)) (nI k) 0 sn 1 eb = gn_X12_rounds_1 _ _ _ _ _ _ _ _
      rw [hround k _ hl1, eW k, if_neg (fun x => hn k (by omega) x.symm), gq_X12_rounds_3, inb_nI (by omega) (by omega), if_pos rfl, if_pos rfl, nI_clamp (by omega), hbr, if_pos (show (-1 : Int32) < 0 by decide)])
    have z3 : gn_X12_rounds_1 s (nI P) (nI P) (nI 0) 0 (upd sn1 P 0) 1 eb = gn_X12_rounds_1 s (nI P) (nI (itF (rdT T) P K)) (nI K) 0 z.1 1 z.2 := z2
    have zK : z.1 (itF (rdT T) P (K + 1)) = nI j1 := by rw [z1 _ (by omega), ej1]
    rw [hc, Option.bind_some, n3, z3, hround K _ hl1, eW K]
    by_cases c : itF (rdT T) P (K + 1) = itF (rdT T) P K
    · rw [if_pos c, if_pos c]
      refine ⟨_, rfl, _, rfl, ?_⟩
      refine ⟨rfl, rfl, Or.inr rfl, fun _ => ⟨?_, ?_⟩⟩
      · have ex : upd (upd z.2 0 (nI (itF (rdT T) P (K + 1)))) 1 0 0 = nI (itF (rdT T) P (K + 1)) := by
          rw [pk_un (by omega), pk_us]
        exact ex.symm
      · show (0 : Int32) = upd (upd z.2 0 (nI (itF (rdT T) P (K + 1)))) 1 0 1
        rw [pk_us]
    · rw [if_neg c, if_neg c, gq_X12_rounds_3, inb_nI (by omega) (by omega), if_pos rfl, if_pos rfl, nI_clamp (by omega), zK, if_neg (show ¬ nI j1 < 0 from by rw [pz_lt0 (by omega)]; exact id)]
      refine ⟨_, rfl, _, rfl, ?_⟩
      refine ⟨rfl, rfl, Or.inr rfl, fun _ => ⟨?_, ?_⟩⟩
      · show nI (itF (rdT T) P (K + 1)) = upd (upd (upd z.2 0 (nI (itF (rdT T) P (K + 1)))) 1 0) (1 : Int32).toNatClampNeg (nI (K + 1) - nI j1) 0
        rw [show (1 : Int32).toNatClampNeg = 1 from rfl, pk_un (by omega), pk_un (by omega), pk_us]
      · show nI (K + 1) - nI j1 = upd (upd (upd z.2 0 (nI (itF (rdT T) P (K + 1)))) 1 0) (1 : Int32).toNatClampNeg (nI (K + 1) - nI j1) 1
        rw [show (1 : Int32).toNatClampNeg = 1 from rfl, pk_us]
theorem j_ended {kn lp ln he' : Int32} {eb : Nat → Int32} (hr : ringOK kn lp ln he' eb) (p1 : Int32) : ∃ q1, dn_X11_ended kn lp ln p1 = some q1 ∧ ∃ q2, dn_X12_ended he' eb p1 = some q2 ∧ q1 = q2.1 := by
  obtain ⟨h1, h2, h3⟩ := hr
  subst h1
  unfold dn_X11_ended dn_X12_ended
  rcases h2 with h2 | h2
  · rw [if_pos h2, if_pos h2]
    exact ⟨_, rfl, _, rfl, rfl⟩
  · obtain ⟨h4, h5⟩ := h3 h2
    have hne : ¬ kn = 0 := by rw [h2]; decide
    rw [if_neg hne, if_neg hne]
    rcases pz_t01 p1 with hp | hp
    · rw [m_in01_f hp]
      refine ⟨-1, ?_, _, rfl, rfl⟩
      have n0 : ¬ p1 = 0 := by
        intro x
        subst x
        rcases hp with hp | hp
        · exact absurd hp (by decide)
        · exact absurd hp (by decide)
      have n1 : ¬ p1 = 1 := by
        intro x
        subst x
        rcases hp with hp | hp
        · exact absurd hp (by decide)
        · exact absurd hp (by decide)
      rw [if_neg n0, if_neg n1]
    · rcases hp with hp | hp
      · subst hp
        rw [m_in01_t (by omega), Option.bind_some, if_pos rfl, inb_nI (by omega) (by omega), if_pos rfl, if_pos (show nI 0 = 0 from rfl), nI_clamp (by omega)]
        exact ⟨_, rfl, _, rfl, h4⟩
      · subst hp
        rw [m_in01_t (by omega), Option.bind_some, if_pos rfl, inb_nI (by omega) (by omega), if_pos rfl, if_neg (show ¬ nI 1 = 0 by decide), if_pos (show nI 1 = 1 from rfl), nI_clamp (by omega)]
        exact ⟨_, rfl, _, rfl, h5⟩
