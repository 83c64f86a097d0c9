/-! ===== pure rows: LAWFUL ===== -/
def wSet (w : Nat → Nat) (d t : Nat) : Nat → Nat := fun x => if x = d then t else w x
theorem wSet_s {w : Nat → Nat} {d t : Nat} : wSet w d t d = t := if_pos rfl
theorem wSet_o {w : Nat → Nat} {d t x : Nat} (h : x ≠ d) : wSet w d t x = w x := if_neg h
def bth (T : tT) (d : Nat) : Nat := T 11 d + T 12 d
/-- the search from i = n - j on -/
def srT (T : tT) (O : Nat → Nat) : Nat → tD → (Nat → Nat) → Nat → Int × (Nat → Nat) → Int × (Nat → Nat)
  | 0, _, w, sum, best => if best.1 < (sum : Int) then ((sum : Int), w) else best
  | j + 1, D, w, sum, best =>
    let d := O (T 1 0 - (j + 1))
    let r0 := srT T O j D (wSet w d 0) sum best
    let r1 := if wrT T D d 0 = 0 then srT T O j (pT D d 0) (wSet w d 1) (sum + bth T d) r0 else r0
    if wrT T D d 1 = 0 then srT T O j (pT D d 1) (wSet w d 2) (sum + bth T d) r1 else r1
def ahT (T : tT) (O : Nat → Nat) : Nat → Nat
  | 0 => 0
  | j + 1 => ahT T O j + bth T (O (T 1 0 - (j + 1)))
theorem srT_cut (T : tT) (O : Nat → Nat) : ∀ (j : Nat) (D : tD) (w : Nat → Nat) (sum : Nat) (best : Int × (Nat → Nat)), ((sum + ahT T O j : Nat) : Int) ≤ best.1 → srT T O j D w sum best = best
  | 0, D, w, sum, best, h => by
    have h' : ((sum + 0 : Nat) : Int) ≤ best.1 := h
    show (if best.1 < (sum : Int) then _ else _) = _
    rw [if_neg (by omega)]
  | j + 1, D, w, sum, best, h => by
    have h' : ((sum + (ahT T O j + bth T (O (T 1 0 - (j + 1)))) : Nat) : Int) ≤ best.1 := h
    have e0 := srT_cut T O j D (wSet w (O (T 1 0 - (j + 1))) 0) sum best (by omega)
    have e1 := srT_cut T O j (pT D (O (T 1 0 - (j + 1))) 0) (wSet w (O (T 1 0 - (j + 1))) 1) (sum + bth T (O (T 1 0 - (j + 1)))) best (by omega)
    have e2 := srT_cut T O j (pT D (O (T 1 0 - (j + 1))) 1) (wSet w (O (T 1 0 - (j + 1))) 2) (sum + bth T (O (T 1 0 - (j + 1)))) best (by omega)
    unfold srT
    simp only [e0, e1, e2, ite_self]
theorem bth_le {T : tT} (hw : twf T) {d : Nat} (hd : d < T 1 0) : bth T d ≤ 198 := by
  have := hw.ds hd
  unfold bth
  omega
theorem ahT_le {T : tT} (hw : twf T) {O : Nat → Nat} (hO : ordP T O) : ∀ j, j ≤ T 1 0 → ahT T O j ≤ 198 * j
  | 0, _ => Nat.le_refl _
  | j + 1, h => by
    have ih := ahT_le hw hO j (by omega)
    have := bth_le hw (hO.1 (T 1 0 - (j + 1)) (by omega))
    show ahT T O j + _ ≤ _
    omega
theorem srT_bd {T : tT} (hw : twf T) {O : Nat → Nat} (hO : ordP T O) : ∀ (j : Nat) (D : tD) (w : Nat → Nat) (sum : Nat) (best : Int × (Nat → Nat)), j ≤ T 1 0 → sum + 198 * j ≤ 198 * T 1 0 → -1 ≤ best.1 → best.1 ≤ 5940 → -1 ≤ (srT T O j D w sum best).1 ∧ (srT T O j D w sum best).1 ≤ 5940
  | 0, D, w, sum, best, _, hs, h1, h2 => by
    have := hw.d
    show -1 ≤ (if best.1 < (sum : Int) then ((sum : Int), w) else best).1 ∧ _
    split
    · exact ⟨by show (-1 : Int) ≤ (sum : Int); omega, by show (if best.1 < (sum : Int) then ((sum : Int), w) else best).1 ≤ 5940; rw [if_pos (by assumption)]; show (sum : Int) ≤ 5940; omega⟩
    · exact ⟨h1, by show (if best.1 < (sum : Int) then ((sum : Int), w) else best).1 ≤ 5940; rw [if_neg (by assumption)]; exact h2⟩
  | j + 1, D, w, sum, best, hj, hs, h1, h2 => by
    have hb := bth_le hw (hO.1 (T 1 0 - (j + 1)) (by omega))
    have e0 := srT_bd hw hO j D (wSet w (O (T 1 0 - (j + 1))) 0) sum best (by omega) (by omega) h1 h2
    have e1 : ∀ b : Int × (Nat → Nat), -1 ≤ b.1 → b.1 ≤ 5940 → -1 ≤ (if wrT T D (O (T 1 0 - (j + 1))) 0 = 0 then srT T O j (pT D (O (T 1 0 - (j + 1))) 0) (wSet w (O (T 1 0 - (j + 1))) 1) (sum + bth T (O (T 1 0 - (j + 1)))) b else b).1 ∧ (if wrT T D (O (T 1 0 - (j + 1))) 0 = 0 then srT T O j (pT D (O (T 1 0 - (j + 1))) 0) (wSet w (O (T 1 0 - (j + 1))) 1) (sum + bth T (O (T 1 0 - (j + 1)))) b else b).1 ≤ 5940 := by
      intro b b1 b2
      split
      · exact srT_bd hw hO j _ _ _ b (by omega) (by omega) b1 b2
      · exact ⟨b1, b2⟩
    have e2 : ∀ b : Int × (Nat → Nat), -1 ≤ b.1 → b.1 ≤ 5940 → -1 ≤ (if wrT T D (O (T 1 0 - (j + 1))) 1 = 0 then srT T O j (pT D (O (T 1 0 - (j + 1))) 1) (wSet w (O (T 1 0 - (j + 1))) 2) (sum + bth T (O (T 1 0 - (j + 1)))) b else b).1 ∧ (if wrT T D (O (T 1 0 - (j + 1))) 1 = 0 then srT T O j (pT D (O (T 1 0 - (j + 1))) 1) (wSet w (O (T 1 0 - (j + 1))) 2) (sum + bth T (O (T 1 0 - (j + 1)))) b else b).1 ≤ 5940 := by
      intro b b1 b2
      split
      · exact srT_bd hw hO j _ _ _ b (by omega) (by omega) b1 b2
      · exact ⟨b1, b2⟩
    have e1' := e1 _ e0.1 e0.2
    exact e2 _ e1'.1 e1'.2
def bstO (T : tT) (best : Int × (Nat → Nat)) (lw : Nat → Int32) : Prop := best.1 ≠ -1 → ∀ d, d < T 1 0 → lw d = nI (best.2 d)
theorem c_try (T : tT) (hw : twf T) (b : Nat → Int32) (hb : ∀ d, d < T 1 0 → b d = nI (T 9 d)) (h : Nat → Int32) (hh : ∀ d, d < T 1 0 → h d = nI (T 12 d)) (e : Nat → Int32) (he : ∀ d, d < T 1 0 → e d = nI (T 13 d)) (l : Nat → Int32) (hl : ∀ d, d < T 1 0 → l d = nI (T 8 d)) (g : Nat → Int32) (hg : ∀ d, d < T 1 0 → g d = nI (T 11 d)) (m : Nat → Int32) (hm : ∀ p, p < T 0 0 → m p = nI (T 6 p)) (y : Nat → Int32) (hy : ∀ d, d < T 1 0 → y d = nI (T 10 d)) {O : Nat → Nat} (hO : ordP T O) (o : Nat → Int32) (ho : ∀ p, p < T 1 0 → o p = nI (O p)) (hn12 : T 1 0 ≤ 12) (ah : Nat → Int32) (hah : ∀ j, j ≤ T 1 0 → ah (T 1 0 - j) = nI (ahT T O j)) : ∀ (j fu : Nat), j < fu → j ≤ T 1 0 → ∀ (D : tD) (w : Nat → Nat) (sum : Nat) (best : Int × (Nat → Nat)) (tdl twy tfd ws lw : Nat → Int32), dwf T D → cB T D tdl twy tfd → sum + 198 * j ≤ 198 * T 1 0 → -1 ≤ best.1 → best.1 ≤ 5940 → (∀ p, p < T 1 0 - j → ws (O p) = nI (w (O p))) → bstO T best lw → ∃ (lw' ws' tdl' twy' tfd' : Nat → Int32), dn_X3_tryFrom fu ah (nI D.1) tdl tfd twy ws (nI (T 1 0)) (nI (T 2 0)) b h o e l g m (zI best.1) lw y (nI (T 1 0 - j)) (nI sum) = some (zI (srT T O j D w sum best).1, lw', ws', tdl', twy', tfd', nI D.1) ∧ cB T D tdl' twy' tfd' ∧ (∀ p, p < T 1 0 - j → ws' (O p) = nI (w (O p))) ∧ bstO T (srT T O j D w sum best) lw' := by
  intro j
  induction j with
  | zero =>
    intro fu hfu hj D w sum best tdl twy tfd ws lw hD hB hs b1 b2 hws hbst
    obtain ⟨f, rfl⟩ : ∃ f, fu = f + 1 := ⟨fu - 1, by omega⟩
    have h0 := hah 0 (Nat.zero_le _)
    rw [Nat.sub_zero] at h0 hws ⊢
    have h0' : ah (T 1 0) = nI 0 := h0
    show ∃ (lw' ws' tdl' twy' tfd' : Nat → Int32), dx_X3_tryFrom _ _ _ _ _ _ _ _ _ _ _ _ _ _ _ _ _ _ _ _ _ = _ ∧ _
    unfold dx_X3_tryFrom
    rw [if_neg (show ¬ (12 : Int32) < nI (T 1 0) from nI_nlt (a := 12) (b := T 1 0) hn12 (by omega)), inb_nI (show T 1 0 < 13 by omega) (by omega), if_pos rfl, nI_clamp (by omega), h0', nI_add, Nat.add_zero, if_neg (show ¬ nI (T 1 0) < nI (T 1 0) from nI_nlt (Nat.le_refl _) (by omega)), zI_n (n := sum) (by omega)]
    simp only [zI_lt (show -2147483648 ≤ best.1 by omega) (show best.1 < 2147483648 by omega) (show -2147483648 ≤ (sum : Int) by omega) (show (sum : Int) < 2147483648 by omega)]
    show ∃ (lw' ws' tdl' twy' tfd' : Nat → Int32), _ = some (zI (if best.1 < (sum : Int) then ((sum : Int), w) else best).1, lw', ws', tdl', twy', tfd', nI D.1) ∧ _ ∧ _ ∧ bstO T (if best.1 < (sum : Int) then ((sum : Int), w) else best) lw'
    by_cases c : best.1 < (sum : Int)
    · rw [if_pos c, if_pos c]
      refine ⟨_, _, _, _, _, rfl, hB, hws, fun _ d hd => ?_⟩
      obtain ⟨p, p1, p2⟩ := hO.sur hd
      show va_cpy ws lw (0 : Int32).toNatClampNeg (0 : Int32).toNatClampNeg (12 : Int32).toNatClampNeg d = nI (w d)
      rw [show (0 : Int32).toNatClampNeg = 0 from rfl, show (12 : Int32).toNatClampNeg = 12 from rfl, sb_cpy0 (by omega), ← p2]
      exact hws p p1
    · rw [if_neg c, if_neg c]
      exact ⟨_, _, _, _, _, rfl, hB, hws, hbst⟩
  | succ j ih =>
    intro fu hfu hj D w sum best tdl twy tfd ws lw hD hB hs b1 b2 hws hbst
    obtain ⟨f, rfl⟩ : ∃ f, fu = f + 1 := ⟨fu - 1, by omega⟩
    have ha := hah (j + 1) hj
    have hal := ahT_le hw hO (j + 1) hj
    obtain ⟨i, hi⟩ : ∃ i, i = T 1 0 - (j + 1) := ⟨_, rfl⟩
    rw [← hi] at ha hws ⊢
    have hin : i < T 1 0 := by omega
    have hd := hO.1 i hin
    have hdb := bth_le hw hd
    show ∃ (lw' ws' tdl' twy' tfd' : Nat → Int32), dx_X3_tryFrom _ _ _ _ _ _ _ _ _ _ _ _ _ _ _ _ _ _ _ _ _ = _ ∧ _
    unfold dx_X3_tryFrom
    rw [if_neg (show ¬ (12 : Int32) < nI i from nI_nlt (a := 12) (b := i) (by omega) (by omega)), inb_nI (show i < 13 by omega) (by omega), if_pos rfl, nI_clamp (by omega), ha, nI_add, if_pos (show nI i < nI (T 1 0) from nI_lt hin (by omega)), inb_nI (show i < 30 by omega) (by omega), if_pos rfl, ho i hin, zI_n (n := sum + ahT T O (j + 1)) (by omega)]
    simp only [zI_lt (show -2147483648 ≤ best.1 by omega) (show best.1 < 2147483648 by omega) (show -2147483648 ≤ ((sum + ahT T O (j + 1) : Nat) : Int) by omega) (show ((sum + ahT T O (j + 1) : Nat) : Int) < 2147483648 by omega)]
    by_cases c : best.1 < ((sum + ahT T O (j + 1) : Nat) : Int)
    · rw [if_pos c]
      have hi1 : T 1 0 - j = i + 1 := by omega
      have i12 : inb (nI (O i)) 12 = true := inb_nI (by omega) (by omega)
      have hne : ∀ p, p < i → O p ≠ O i := fun p hp => hO.ne hp hin
      -- the way t + 1, with its book
      have hway : ∀ (D' : tD) (t sum' : Nat) (best : Int × (Nat → Nat)) (tdl twy tfd ws lw : Nat → Int32), dwf T D' → cB T D' tdl twy tfd → sum' + 198 * j ≤ 198 * T 1 0 → -1 ≤ best.1 → best.1 ≤ 5940 → (∀ p, p < i → ws (O p) = nI (w (O p))) → bstO T best lw → ∃ (lw' ws' tdl' twy' tfd' : Nat → Int32), dn_X3_tryFrom f ah (nI D'.1) tdl tfd twy (upd ws (O i) (nI t)) (nI (T 1 0)) (nI (T 2 0)) b h o e l g m (zI best.1) lw y (nI (i + 1)) (nI sum') = some (zI (srT T O j D' (wSet w (O i) t) sum' best).1, lw', ws', tdl', twy', tfd', nI D'.1) ∧ cB T D' tdl' twy' tfd' ∧ (∀ p, p < i → ws' (O p) = nI (w (O p))) ∧ bstO T (srT T O j D' (wSet w (O i) t) sum' best) lw' := by
        intro D' t sum' best tdl twy tfd ws lw hD' hB' hs' b1 b2 hws hbst
        obtain ⟨lw', ws', tdl', twy', tfd', z1, z2, z3, z4⟩ := ih f (by omega) (by omega) D' (wSet w (O i) t) sum' best tdl twy tfd (upd ws (O i) (nI t)) lw hD' hB' hs' b1 b2 (fun p hp => by
          by_cases e1 : p = i
          · subst e1; rw [pk_us, wSet_s]
          · rw [pk_un (hne p (by omega)), wSet_o (hne p (by omega))]; exact hws p (by omega)) hbst
        rw [hi1] at z1 z3
        refine ⟨lw', ws', tdl', twy', tfd', z1, z2, fun p hp => ?_, z4⟩
        rw [z3 p (by omega), wSet_o (hne p hp)]
      -- one way of doing it
      have hdo : ∀ (t : Nat) (best : Int × (Nat → Nat)) (tdl twy tfd ws lw : Nat → Int32), t ≤ 1 → cB T D tdl twy tfd → -1 ≤ best.1 → best.1 ≤ 5940 → (∀ p, p < i → ws (O p) = nI (w (O p))) → bstO T best lw → ∃ (lw' ws' tdl' twy' tfd' : Nat → Int32), gn_X3_tryFrom_0 (dn_X3_tryFrom f) ah (nI (T 1 0)) (nI (T 2 0)) b h o e l g m y (nI i) (nI sum) (nI (O i)) (nI (t + 1)) (zI best.1) lw ws tdl twy tfd (nI D.1) = gn_X3_tryFrom_0 (dn_X3_tryFrom f) ah (nI (T 1 0)) (nI (T 2 0)) b h o e l g m y (nI i) (nI sum) (nI (O i)) (nI (t + 2)) (zI (if wrT T D (O i) t = 0 then srT T O j (pT D (O i) t) (wSet w (O i) (t + 1)) (sum + bth T (O i)) best else best).1) lw' ws' tdl' twy' tfd' (nI D.1) ∧ cB T D tdl' twy' tfd' ∧ (∀ p, p < i → ws' (O p) = nI (w (O p))) ∧ bstO T (if wrT T D (O i) t = 0 then srT T O j (pT D (O i) t) (wSet w (O i) (t + 1)) (sum + bth T (O i)) best else best) lw' := by
        intro t best tdl twy tfd ws lw ht hB b1 b2 hws hbst
        have g2 := c_tryDeal T hw D hD tdl twy tfd hB b hb e he l hl m hm y hy hd ht
        have hwr : wrT T D (O i) t ≤ 6 := by
          unfold wrT
          repeat' split
          all_goals omega
        rw [gq_X3_tryFrom_0, if_neg (show ¬ (2 : Int32) < nI (t + 1) from nI_nlt (a := 2) (b := t + 1) (by omega) (by omega)), i12, if_pos rfl, if_neg (show ¬ nI (t + 1) = 0 from by rw [pz_e0 (by omega)]; omega), g2, nI_clamp (by omega), nI_1, nI_1]
        by_cases cw : wrT T D (O i) t = 0
        · rw [if_pos cw, if_pos cw, Option.bind_some, if_pos (show (0 : Int32) = 0 from rfl), c_bothShares T hw h hh g hg hd, Option.bind_some, nI_add]
          have hdw := wrT_dwf hD hd ht cw
          obtain ⟨lw', ws', tdl', twy', tfd', z1, z2, z3, z4⟩ := hway (pT D (O i) t) (t + 1) (sum + bth T (O i)) best _ _ _ ws lw hdw (hB.put (O i) t) (by omega) b1 b2 hws hbst
          have z1' : dn_X3_tryFrom f ah (nI (D.1 + 1)) (upd tdl D.1 (nI (O i))) (upd tfd D.1 (nI (fbT T D.2 D.1 (O i)))) (upd twy D.1 (nI (t + 1))) (upd ws (O i) (nI (t + 1))) (nI (T 1 0)) (nI (T 2 0)) b h o e l g m (zI best.1) lw y (nI (i + 1)) (nI (sum + (T 11 (O i) + T 12 (O i)))) = some (zI (srT T O j (pT D (O i) t) (wSet w (O i) (t + 1)) (sum + bth T (O i)) best).1, lw', ws', tdl', twy', tfd', nI (D.1 + 1)) := z1
          rw [z1', Option.bind_some]
          have hDle := hdw.le
          rw [pT_1] at hDle
          show ∃ (lw' ws' tdl' twy' tfd' : Nat → Int32), Option.bind (dn_X0_dropLast (nI (D.1 + 1))) _ = _ ∧ _
          rw [c_dropLast (by omega), Option.bind_some, Nat.add_sub_cancel]
          have hBp : cB T D tdl' twy' tfd' := by
            intro q hq
            have := z2 q (by rw [pT_1]; omega)
            rw [pT_o hq] at this
            refine ⟨this.1, this.2.1, ?_⟩
            rw [this.2.2, fbT_congr (e := (pT D (O i) t).2) (e' := D.2) (fun x hx => pT_o (by omega))]
          exact ⟨lw', ws', tdl', twy', tfd', rfl, hBp, z3, z4⟩
        · rw [if_neg cw, if_neg cw, Option.bind_some]
          show ∃ (lw' ws' tdl' twy' tfd' : Nat → Int32), (if nI (wrT T D (O i) t) = 0 then _ else _) = _ ∧ _
          rw [if_neg (show ¬ nI (wrT T D (O i) t) = 0 from by rw [pz_e0 (by omega)]; exact cw)]
          exact ⟨lw, _, tdl, twy, tfd, rfl, hB, fun p hp => by rw [pk_un (hne p hp)]; exact hws p hp, hbst⟩
      -- not done
      obtain ⟨lw0, ws0, tdl0, twy0, tfd0, z1, z2, z3, z4⟩ := hway D 0 sum best tdl twy tfd ws lw hD hB (by omega) b1 b2 hws hbst
      have hb0 := srT_bd hw hO j D (wSet w (O i) 0) sum best (by omega) (by omega) b1 b2
      obtain ⟨lw1, ws1, tdl1, twy1, tfd1, y1, y2, y3, y4⟩ := hdo 0 (srT T O j D (wSet w (O i) 0) sum best) tdl0 twy0 tfd0 ws0 lw0 (by omega) z2 hb0.1 hb0.2 z3 z4
      have hb1 : -1 ≤ (if wrT T D (O i) 0 = 0 then srT T O j (pT D (O i) 0) (wSet w (O i) 1) (sum + bth T (O i)) (srT T O j D (wSet w (O i) 0) sum best) else srT T O j D (wSet w (O i) 0) sum best).1 ∧ (if wrT T D (O i) 0 = 0 then srT T O j (pT D (O i) 0) (wSet w (O i) 1) (sum + bth T (O i)) (srT T O j D (wSet w (O i) 0) sum best) else srT T O j D (wSet w (O i) 0) sum best).1 ≤ 5940 := by
        split
        · exact srT_bd hw hO j _ _ _ _ (by omega) (by omega) hb0.1 hb0.2
        · exact hb0
      obtain ⟨lw2, ws2, tdl2, twy2, tfd2, x1, x2, x3, x4⟩ := hdo 1 (if wrT T D (O i) 0 = 0 then srT T O j (pT D (O i) 0) (wSet w (O i) 1) (sum + bth T (O i)) (srT T O j D (wSet w (O i) 0) sum best) else srT T O j D (wSet w (O i) 0) sum best) tdl1 twy1 tfd1 ws1 lw1 (by omega) y2 hb1.1 hb1.2 y3 y4
      have hfin : srT T O (j + 1) D w sum best = (if wrT T D (O i) 1 = 0 then srT T O j (pT D (O i) 1) (wSet w (O i) 2) (sum + bth T (O i)) (if wrT T D (O i) 0 = 0 then srT T O j (pT D (O i) 0) (wSet w (O i) 1) (sum + bth T (O i)) (srT T O j D (wSet w (O i) 0) sum best) else srT T O j D (wSet w (O i) 0) sum best) else (if wrT T D (O i) 0 = 0 then srT T O j (pT D (O i) 0) (wSet w (O i) 1) (sum + bth T (O i)) (srT T O j D (wSet w (O i) 0) sum best) else srT T O j D (wSet w (O i) 0) sum best)) := by
        rw [hi]; rfl
      rw [hfin]
      refine ⟨lw2, ws2, tdl2, twy2, tfd2, ?_, x2, x3, x4⟩
      rw [gq_X3_tryFrom_0, if_neg (show ¬ (2 : Int32) < 0 by decide), i12, if_pos rfl, if_pos (show (0 : Int32) = 0 from rfl), nI_clamp (by omega), nI_1, show upd ws (O i) 0 = upd ws (O i) (nI 0) from rfl, z1, Option.bind_some]
      refine (show _ = gn_X3_tryFrom_0 (dn_X3_tryFrom f) ah (nI (T 1 0)) (nI (T 2 0)) b h o e l g m y (nI i) (nI sum) (nI (O i)) (nI (0 + 1)) (zI (srT T O j D (wSet w (O i) 0) sum best).1) lw0 ws0 tdl0 twy0 tfd0 (nI D.1) from rfl).trans (y1.trans (x1.trans ?_))
      rw [gq_X3_tryFrom_0, if_pos (show (2 : Int32) < nI (1 + 2) by decide)]
    · rw [if_neg c]
      have hcut := srT_cut T O (j + 1) D w sum best (by omega)
      rw [hcut]
      exact ⟨_, _, _, _, _, rfl, hB, hws, hbst⟩
