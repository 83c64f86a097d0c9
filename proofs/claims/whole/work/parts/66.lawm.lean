/-! ===== pure rows: LAWFUL, the model's; joined ===== -/
/-- all of s but what is done -/
def sfO (s s' : Nat → Int32) : Prop := ∀ k, k < 224 → k ≠ 3 → s' k = s k
theorem sfO.refl (s : Nat → Int32) : sfO s s := fun _ _ _ => rfl
theorem sfO.trans {s s' s2 : Nat → Int32} (h : sfO s s') (h2 : sfO s' s2) : sfO s s2 := fun k a b => (h2 k a b).trans (h k a b)
theorem mB.dn {D : tD} {s : Nat → Int32} {d t : Nat} (hB : mB (pT D d t) s) : mB D (upd s 3 (s 3 - 1)) := by
  refine ⟨?_, fun i hi => ?_⟩
  · rw [pk_us, hB.1, pT_1, pz_s1 (by omega), Nat.add_sub_cancel]
  · have := hB.2 i (by rw [pT_1]; omega)
    rw [pT_o hi] at this
    rw [pk_un (by omega), pk_un (by omega)]
    exact this
def lbO (T : tT) (best : Int × (Nat → Nat)) (lb : Nat → Int32) : Prop := bstO T best lb
theorem m_dfs (T : tT) (hw : twf T) (s : Nat → Int32) (hs : mT T s) {O : Nat → Nat} (hO : ordP T O) (hn12 : T 1 0 ≤ 12) (od dk : Nat → Int32) (hod : ∀ p, p < T 1 0 → od p = nI (O p)) (th lm : Int32) : ∀ (j : Nat), j ≤ T 1 0 → ∀ (D : tD) (w : Nat → Nat) (sum : Nat) (best : Int × (Nat → Nat)) (s' tr ba bf lb : Nat → Int32), dwf T D → mB D s' → sfO s s' → sum + 198 * j ≤ 198 * T 1 0 → -1 ≤ best.1 → best.1 ≤ 5940 → (∀ p, p < T 1 0 - j → tr p = nI (w (O p))) → (0 < j → tr (T 1 0 - j) = -1) → bstO T best lb → ∃ (s2 tr2 ba2 bf2 lb2 : Nat → Int32), gn_X12_lawful_0 (zI best.1) (nI (T 1 0 - j)) (nI sum) th od dk s' tr lm ba bf lb = gn_X12_lawful_0 (zI (srT T O j D w sum best).1) (nI (T 1 0 - j) - 1) (nI sum) th od dk s2 tr2 lm ba2 bf2 lb2 ∧ mB D s2 ∧ sfO s s2 ∧ (∀ p, p < T 1 0 - j → tr2 p = nI (w (O p))) ∧ bstO T (srT T O j D w sum best) lb2 := by
  intro j
  induction j with
  | zero =>
    intro _ D w sum best s' tr ba bf lb hD hB hsf hsb b1 b2 htr _ hbst
    rw [Nat.sub_zero] at htr ⊢
    have hs1 : s' 1 = nI (T 1 0) := by rw [hsf 1 (by omega) (by omega)]; exact hs.2.1
    rw [gq_X12_lawful_0, if_neg (show ¬ nI (T 1 0) < 0 from by rw [pz_lt0 (by omega)]; exact id), show (1 : Int32).toNatClampNeg = 1 from rfl, hs1, if_pos rfl, zI_n (n := sum) (by omega)]
    simp only [zI_le (show -2147483648 ≤ (sum : Int) by omega) (show (sum : Int) < 2147483648 by omega) (show -2147483648 ≤ best.1 by omega) (show best.1 < 2147483648 by omega)]
    show ∃ (s2 tr2 ba2 bf2 lb2 : Nat → Int32), _ = gn_X12_lawful_0 (zI (if best.1 < (sum : Int) then ((sum : Int), w) else best).1) _ _ _ _ _ _ _ _ _ _ _ ∧ _ ∧ _ ∧ _ ∧ bstO T (if best.1 < (sum : Int) then ((sum : Int), w) else best) lb2
    by_cases c : best.1 < (sum : Int)
    · rw [if_neg (by omega), if_pos c]
      obtain ⟨lb', h1, h2⟩ := pz_rel0 (fun k (q : Nat → Int32) => gn_X12_lawful_2 (zI (sum : Int)) (nI (T 1 0)) (zI (sum : Int)) (nI k) th od dk s' tr lm ba bf q) (T 1 0) (fun k q => ∀ p, p < k → q (O p) = nI (w (O p))) lb (fun p hp => by omega) (by
        intro k q hk hq
        have hok := hO.1 k hk
        refine ⟨upd q (O k) (tr k), fun p hp => ?_, ?_⟩
        · by_cases e : p = k
          · subst e; rw [pk_us]; exact htr p (by omega)
          · rw [pk_un (hO.ne (show p < k by omega) hk)]; exact hq p (by omega)
        · show gn_X12_lawful_2 _ _ _ _ _ _ _ _ _ _ _ _ _ = gn_X12_lawful_2 _ _ _ _ _ _ _ _ _ _ _ _ _
          rw [gq_X12_lawful_2, if_neg (nI_ge hk (by omega)), inb_nI (by omega) (by omega), if_pos rfl, inb_nI (by omega) (by omega), if_pos rfl, nI_clamp (by omega), hod k hk, inb_nI (by omega) (by omega), if_pos rfl, nI_clamp (by omega), nI_1])
      have h3 : gn_X12_lawful_2 (zI (sum : Int)) (nI (T 1 0)) (zI (sum : Int)) 0 th od dk s' tr lm ba bf lb = gn_X12_lawful_2 (zI (sum : Int)) (nI (T 1 0)) (zI (sum : Int)) (nI (T 1 0)) th od dk s' tr lm ba bf lb' := h2
      rw [h3, gq_X12_lawful_2, if_pos (nI_le (Nat.le_refl _) (by omega)), pz_sub1]
      refine ⟨s', tr, ba, bf, lb', rfl, hB, hsf, htr, fun _ d hd => ?_⟩
      obtain ⟨p, p1, p2⟩ := hO.sur hd
      rw [← p2]; exact h1 p p1
    · rw [if_pos (by omega), if_neg c, pz_sub1]
      exact ⟨s', tr, ba, bf, lb, rfl, hB, hsf, htr, hbst⟩
  | succ j ih =>
    intro hj D w sum best s' tr ba bf lb hD hB hsf hsb b1 b2 htr htr1 hbst
    obtain ⟨i, hi⟩ : ∃ i, i = T 1 0 - (j + 1) := ⟨_, rfl⟩
    rw [← hi] at htr htr1 ⊢
    have hin : i < T 1 0 := by omega
    have hd := hO.1 i hin
    have hdb := bth_le hw hd
    have hi1 : T 1 0 - j = i + 1 := by omega
    have hne : ∀ p, p < i → O p ≠ O i := fun p hp => hO.ne hp hin
    have i12 : inb (nI i) 12 = true := inb_nI (by omega) (by omega)
    have i30 : inb (nI i) 30 = true := inb_nI (by omega) (by omega)
    have hmT : ∀ s', sfO s s' → mT T s' := fun s' h => hs.same hw h
    have hs1 : ∀ s', sfO s s' → s' 1 = nI (T 1 0) := fun s' h => by rw [h 1 (by omega) (by omega)]; exact hs.2.1
    -- down one level, with the way t there
    have hdown : ∀ (D' : tD) (t sum' : Nat) (best : Int × (Nat → Nat)) (s' tr ba bf lb : Nat → Int32), dwf T D' → mB D' s' → sfO s s' → sum' + 198 * j ≤ 198 * T 1 0 → -1 ≤ best.1 → best.1 ≤ 5940 → (∀ p, p < i → tr p = nI (w (O p))) → tr i = nI t → bstO T best lb → ∃ (s2 tr2 ba2 bf2 lb2 : Nat → Int32), gn_X12_lawful_4 (zI best.1) (nI i) (nI sum') th od dk s' tr lm ba bf lb = gn_X12_lawful_0 (zI (srT T O j D' (wSet w (O i) t) sum' best).1) (nI i) (nI sum') th od dk s2 tr2 lm ba2 bf2 lb2 ∧ mB D' s2 ∧ sfO s s2 ∧ (∀ p, p < i → tr2 p = nI (w (O p))) ∧ tr2 i = nI t ∧ bstO T (srT T O j D' (wSet w (O i) t) sum' best) lb2 := by
      intro D' t sum' best s' tr ba bf lb hD' hB' hsf' hs' b1 b2 htr hti hbst
      have hq : ∃ tr', gn_X12_lawful_4 (zI best.1) (nI i) (nI sum') th od dk s' tr lm ba bf lb = gn_X12_lawful_0 (zI best.1) (nI (i + 1)) (nI sum') th od dk s' tr' lm ba bf lb ∧ (∀ p, p ≤ i → tr' p = tr p) ∧ (0 < j → tr' (i + 1) = -1) := by
        rw [gq_X12_lawful_4, show (1 : Int32).toNatClampNeg = 1 from rfl, hs1 s' hsf', nI_1]
        by_cases c : T 1 0 ≤ i + 1
        · rw [if_pos (nI_le c (by omega))]
          exact ⟨tr, rfl, fun p _ => rfl, fun h => by omega⟩
        · rw [if_neg (nI_ge (by omega) (by omega)), inb_nI (by omega) (by omega), if_pos rfl, nI_clamp (by omega)]
          exact ⟨_, rfl, fun p hp => pk_un (by omega), fun _ => pk_us⟩
      obtain ⟨tr', q1, q2, q3⟩ := hq
      obtain ⟨s2, tr2, ba2, bf2, lb2, z1, z2, z3, z4, z5⟩ := ih (by omega) D' (wSet w (O i) t) sum' best s' tr' ba bf lb hD' hB' hsf' hs' b1 b2 (fun p hp => by
        rw [hi1] at hp
        rw [q2 p (by omega)]
        by_cases e1 : p = i
        · subst e1; rw [wSet_s]; exact hti
        · rw [wSet_o (hne p (by omega))]; exact htr p (by omega)) (by rw [hi1]; exact q3) hbst
      rw [hi1] at z1 z4
      refine ⟨s2, tr2, ba2, bf2, lb2, ?_, z2, z3, fun p hp => ?_, ?_, z5⟩
      · rw [q1, z1, pz_s1 (by omega), Nat.add_sub_cancel]
      · rw [z4 p (by omega), wSet_o (hne p hp)]
      · rw [z4 i (by omega), wSet_s]
    -- the way t tried at i: t = 1, 2
    have hdo : ∀ (t : Nat) (best : Int × (Nat → Nat)) (s' tr ba bf lb : Nat → Int32), t ≤ 1 → mB D s' → sfO s s' → -1 ≤ best.1 → best.1 ≤ 5940 → (∀ p, p < i → tr p = nI (w (O p))) → tr i = nI (t + 1) → bstO T best lb → ∃ (s2 tr2 ba2 bf2 lb2 : Nat → Int32), gn_X12_lawful_1 (zI best.1) (nI i) (nI sum) (nI (O i)) th od dk s' tr lm ba bf lb = gn_X12_lawful_1 (zI (if wrT T D (O i) t = 0 then srT T O j (pT D (O i) t) (wSet w (O i) (t + 1)) (sum + bth T (O i)) best else best).1) (nI i) (nI sum) (nI (O i)) th od dk s2 tr2 lm ba2 bf2 lb2 ∧ mB D s2 ∧ sfO s s2 ∧ (∀ p, p < i → tr2 p = nI (w (O p))) ∧ tr2 i = nI (t + 2) ∧ bstO T (if wrT T D (O i) t = 0 then srT T O j (pT D (O i) t) (wSet w (O i) (t + 1)) (sum + bth T (O i)) best else best) lb2 := by
      intro t best s' tr ba bf lb ht hB' hsf' b1 b2 htr hti hbst
      obtain ⟨ba1, bf1, g1⟩ := m_wrong T hw s' (hmT s' hsf') D hD hB' ba bf hd ht
      have hwr : wrT T D (O i) t ≤ 6 := by
        unfold wrT
        repeat' split
        all_goals omega
      have hq : gn_X12_lawful_1 (zI best.1) (nI i) (nI sum) (nI (O i)) th od dk s' tr lm ba bf lb = if wrT T D (O i) t = 0 then gn_X12_lawful_3 (zI best.1) (nI i) (nI sum) (nI (O i)) th od dk s' tr lm ba1 bf1 lb else gn_X12_lawful_1 (zI best.1) (nI i) (nI sum) (nI (O i)) th od dk s' (upd tr i (nI (t + 2))) lm ba1 bf1 lb := by
        rw [gq_X12_lawful_1, i12, if_pos rfl, if_pos rfl, if_pos rfl, nI_clamp (by omega), hti, if_neg (show ¬ nI (t + 1) ≤ 0 from by rw [pz_le0 (by omega)]; omega), if_neg (show ¬ (3 : Int32) ≤ nI (t + 1) from nI_ge (b := 3) (by omega) (by omega)), pz_s1 (by omega), Nat.add_sub_cancel, g1, Option.bind_some, nI_1, if_pos rfl, if_pos rfl]
        simp only [pz_le0 (show wrT T D (O i) t < 2 ^ 31 by omega)]
      by_cases cw : wrT T D (O i) t = 0
      · rw [if_pos cw] at hq
        have hdw := wrT_dwf hD hd ht cw
        have hlt : D.1 < 30 := by
          have := hdw.le
          have := hw.d
          rw [pT_1] at *
          omega
        obtain ⟨s1, e1, e2, e3⟩ := m_put D s' hB' hlt (O i) t
        have hsf1 : sfO s s1 := hsf'.trans e3
        have hm1 := hmT s1 hsf1
        obtain ⟨s2, tr2, ba2, bf2, lb2, z1, z2, z3, z4, z5, z6⟩ := hdown (pT D (O i) t) (t + 1) (sum + bth T (O i)) best s1 tr ba1 bf1 lb hdw e2 hsf1 (by omega) b1 b2 htr hti hbst
        have hm2 := hmT s2 z3
        have hs2 : sfO s (upd s2 3 (s2 3 - 1)) := z3.trans (fun k _ h3 => pk_un h3)
        have hm3 := hmT _ hs2
        refine ⟨upd s2 3 (s2 3 - 1), upd tr2 i (nI (t + 2)), ba2, bf2, lb2, ?_, z2.dn, hs2, fun p hp => by rw [pk_un (by omega)]; exact z4 p hp, pk_us, by rw [if_pos cw]; exact z6⟩
        rw [hq, gq_X12_lawful_3, i12, if_pos rfl, if_pos rfl, if_pos rfl, nI_clamp (by omega), hti, if_neg (show ¬ nI (t + 1) = 3 from by rw [show (3 : Int32) = nI 3 from rfl, pz_eq (by omega) (by omega)]; omega), if_neg (show ¬ nI (t + 1) ≤ 0 from by rw [pz_le0 (by omega)]; omega), pz_s1 (by omega), Nat.add_sub_cancel, e1, Option.bind_some, m_of3 T hw s1 hm1 hd, Option.bind_some, m_of4 T hw s1 hm1 hd, Option.bind_some, nI_add, nI_add]
        refine z1.trans ?_
        have hlt2 : sum + bth T (O i) < 2 ^ 31 := by omega
        rw [gq_X12_lawful_0, if_neg (show ¬ nI i < 0 from by rw [pz_lt0 (by omega)]; exact id), show (1 : Int32).toNatClampNeg = 1 from rfl, hs1 s2 z3, if_neg (show ¬ nI i = nI (T 1 0) from by rw [pz_eq (by omega) (by omega)]; omega), i30, if_pos rfl, i12, if_pos rfl, nI_clamp (by omega), z5, if_neg (show ¬ nI (t + 1) ≤ 0 from by rw [pz_le0 (by omega)]; omega), show (3 : Int32).toNatClampNeg = 3 from rfl, hod i hin, m_of3 T hw _ hm3 hd, Option.bind_some, m_of4 T hw _ hm3 hd, Option.bind_some, if_pos rfl, if_pos rfl, nI_add, pz_s (by unfold bth; omega), nI_1, if_pos cw]
        congr 2
        unfold bth
        omega
      · rw [if_neg cw] at hq
        rw [hq, if_neg cw]
        exact ⟨s', upd tr i (nI (t + 2)), ba1, bf1, lb, rfl, hB', hsf', fun p hp => by rw [pk_un (by omega)]; exact htr p hp, pk_us, hbst⟩
    -- not done
    have hti := htr1 (by omega)
    obtain ⟨s1, tr1, ba1, bf1, lb1, z1, z2, z3, z4, z5, z6⟩ := hdown D 0 sum best s' (upd tr i 0) ba bf lb hD hB hsf (by omega) b1 b2 (fun p hp => by rw [pk_un (by omega)]; exact htr p hp) pk_us hbst
    have hb0 := srT_bd hw hO j D (wSet w (O i) 0) sum best (by omega) (by omega) b1 b2
    obtain ⟨s2, tr2, ba2, bf2, lb2, y1, y2, y3, y4, y5, y6⟩ := hdo 0 (srT T O j D (wSet w (O i) 0) sum best) s1 (upd tr1 i (nI 1)) ba1 bf1 lb1 (by omega) z2 z3 hb0.1 hb0.2 (fun p hp => by rw [pk_un (by omega)]; exact z4 p hp) pk_us z6
    have hb1 : -1 ≤ (if wrT T D (O i) 0 = 0 then srT T O j (pT D (O i) 0) (wSet w (O i) 1) (sum + bth T (O i)) (srT T O j D (wSet w (O i) 0) sum best) else srT T O j D (wSet w (O i) 0) sum best).1 ∧ (if wrT T D (O i) 0 = 0 then srT T O j (pT D (O i) 0) (wSet w (O i) 1) (sum + bth T (O i)) (srT T O j D (wSet w (O i) 0) sum best) else srT T O j D (wSet w (O i) 0) sum best).1 ≤ 5940 := by
      split
      · exact srT_bd hw hO j _ _ _ _ (by omega) (by omega) hb0.1 hb0.2
      · exact hb0
    obtain ⟨s3, tr3, ba3, bf3, lb3, x1, x2, x3, x4, x5, x6⟩ := hdo 1 (if wrT T D (O i) 0 = 0 then srT T O j (pT D (O i) 0) (wSet w (O i) 1) (sum + bth T (O i)) (srT T O j D (wSet w (O i) 0) sum best) else srT T O j D (wSet w (O i) 0) sum best) s2 tr2 ba2 bf2 lb2 (by omega) y2 y3 hb1.1 hb1.2 y4 y5 y6
    have hfin : srT T O (j + 1) D w sum best = (if wrT T D (O i) 1 = 0 then srT T O j (pT D (O i) 1) (wSet w (O i) 2) (sum + bth T (O i)) (if wrT T D (O i) 0 = 0 then srT T O j (pT D (O i) 0) (wSet w (O i) 1) (sum + bth T (O i)) (srT T O j D (wSet w (O i) 0) sum best) else srT T O j D (wSet w (O i) 0) sum best) else (if wrT T D (O i) 0 = 0 then srT T O j (pT D (O i) 0) (wSet w (O i) 1) (sum + bth T (O i)) (srT T O j D (wSet w (O i) 0) sum best) else srT T O j D (wSet w (O i) 0) sum best)) := by
      rw [hi]; rfl
    rw [hfin]
    refine ⟨s3, tr3, ba3, bf3, lb3, ?_, x2, x3, x4, x6⟩
    -- into the first
    have f0 : gn_X12_lawful_0 (zI best.1) (nI i) (nI sum) th od dk s' tr lm ba bf lb = gn_X12_lawful_4 (zI best.1) (nI i) (nI sum) th od dk s' (upd tr i 0) lm ba bf lb := by
      rw [gq_X12_lawful_0, if_neg (show ¬ nI i < 0 from by rw [pz_lt0 (by omega)]; exact id), show (1 : Int32).toNatClampNeg = 1 from rfl, hs1 s' hsf, if_neg (show ¬ nI i = nI (T 1 0) from by rw [pz_eq (by omega) (by omega)]; omega), i30, if_pos rfl, i12, if_pos rfl, nI_clamp (by omega), hti, if_pos (show (-1 : Int32) ≤ 0 by decide), if_pos rfl, if_pos rfl, hod i hin, show (-1 : Int32) + 1 = 0 from by decide, gq_X12_lawful_1, i12, if_pos rfl, nI_clamp (by omega), pk_us, if_pos (show (0 : Int32) ≤ 0 by decide), gq_X12_lawful_3, i12, if_pos rfl, nI_clamp (by omega), pk_us, if_neg (show ¬ (0 : Int32) = 3 by decide), if_pos rfl, if_pos (show (0 : Int32) ≤ 0 by decide)]
    -- back from it, to the way as told
    have f1 : gn_X12_lawful_0 (zI (srT T O j D (wSet w (O i) 0) sum best).1) (nI i) (nI sum) th od dk s1 tr1 lm ba1 bf1 lb1 = gn_X12_lawful_1 (zI (srT T O j D (wSet w (O i) 0) sum best).1) (nI i) (nI sum) (nI (O i)) th od dk s1 (upd tr1 i (nI 1)) lm ba1 bf1 lb1 := by
      rw [gq_X12_lawful_0, if_neg (show ¬ nI i < 0 from by rw [pz_lt0 (by omega)]; exact id), show (1 : Int32).toNatClampNeg = 1 from rfl, hs1 s1 z3, if_neg (show ¬ nI i = nI (T 1 0) from by rw [pz_eq (by omega) (by omega)]; omega), i30, if_pos rfl, i12, if_pos rfl, nI_clamp (by omega), z5, if_pos (show nI 0 ≤ 0 by decide), if_pos rfl, if_pos rfl, hod i hin, nI_1]
    have f2 : ∀ (bb : Int32), gn_X12_lawful_1 bb (nI i) (nI sum) (nI (O i)) th od dk s3 tr3 lm ba3 bf3 lb3 = gn_X12_lawful_0 bb (nI i - 1) (nI sum) th od dk s3 tr3 lm ba3 bf3 lb3 := by
      intro bb
      rw [gq_X12_lawful_1, i12, if_pos rfl, if_pos rfl, nI_clamp (by omega), x5, if_neg (show ¬ nI (1 + 2) ≤ 0 by decide), if_pos (show (3 : Int32) ≤ nI (1 + 2) by decide), gq_X12_lawful_3, i12, if_pos rfl, nI_clamp (by omega), x5, if_pos (show nI (1 + 2) = 3 by decide), pz_sub1]
    rw [f0]
    exact z1.trans (f1.trans (y1.trans (x1.trans (f2 _))))
