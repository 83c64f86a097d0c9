/-! ===== pure rows: the pairs are taken from the tape ===== -/
def okPr (n : Nat) (A B : Nat → Nat) (N : Nat) : Prop := ∀ i, i < N → A i < n ∧ B i < n ∧ A i ≠ B i
def okPl (n L : Nat) (A B : Nat → Nat) : Prop := L % 2 = 0 ∧ L ≤ 40 ∧ okPr n A B (L / 2)
theorem near_up {A B : Nat → Nat} {k : Nat} {nr : Nat → Int32} (h : nearO A B k nr) (ha : A k < 10) (hb : B k < 10) (hab : A k ≠ B k) : nearO A B (k + 1) (upd (upd nr (A k) (nr (A k) ||| nI (2 ^ B k))) (B k) ((upd nr (A k) (nr (A k) ||| nI (2 ^ B k))) (B k) ||| nI (2 ^ A k))) := by
  intro p hp
  have e1 : nrK A B p (k + 1) = nrK A B p k ||| (if A k = p then 2 ^ B k else 0) ||| (if B k = p then 2 ^ A k else 0) := rfl
  have hk := h p hp
  rw [e1]
  unfold upd
  by_cases c1 : p = B k
  · have c2 : ¬ A k = p := by rw [c1]; exact hab
    have c3 : ¬ B k = A k := fun x => hab x.symm
    have hk2 := h (B k) hb
    rw [if_pos c1, if_neg c3, if_neg c2, if_pos c1.symm, Nat.or_zero, hk2, c1, pz_or]
  · have c3 : ¬ B k = p := fun x => c1 x.symm
    rw [if_neg c1, if_neg c3, Nat.or_zero]
    by_cases c2 : p = A k
    · rw [if_pos c2, if_pos c2.symm, h (A k) ha, c2, pz_or]
    · have c4 : ¬ A k = p := fun x => c2 x.symm
      rw [if_neg c2, if_neg c4, Nat.or_zero]
      exact hk
theorem c_addPair {A B : Nat → Nat} {k : Nat} (hk : k < 20) {M : Nat} (f nr se : Nat → Int32) {a b : Nat} (ha : a < 10) (hb : b < 10) : dn_X4_addPair (nI k) (nI M) f nr se (nI a) (nI b) = some (upd f k (nI a), upd se k (nI b), nI (k + 1), upd (upd nr a (nr a ||| nI (2 ^ b))) b ((upd nr a (nr a ||| nI (2 ^ b))) b ||| nI (2 ^ a)), nI (M ||| (2 ^ a ||| 2 ^ b))) := by
  unfold dn_X4_addPair
  rw [inb_nI hk (by omega), if_pos rfl, if_pos rfl, inb_nI ha (by omega), if_pos rfl, if_pos rfl, inb_nI hb (by omega), if_pos rfl, if_pos rfl, nI_clamp (by omega), nI_clamp (by omega), nI_clamp (by omega), pz_1shl (by omega), pz_1shl (by omega), pz_or, pz_or, nI_1]
theorem c_take {O : Nat → Nat} {by_ : Nat → Int32} (h : ∀ k, k < 940 → O k < 256 ∧ by_ k = sbT (O k)) {L n : Nat} (hL : L ≤ 940) (hn : n ≤ 10) (f nr se : Nat → Int32) : (okPl n L (fun i => O (2 * i)) (fun i => O (2 * i + 1)) ∧ ∃ nr' f' se', dn_X4_take f nr se (nI L) by_ (nI n) = some (true, nI (L / 2), nI (mtK (fun i => O (2 * i)) (fun i => O (2 * i + 1)) (L / 2)), nr', f', se') ∧ nearO (fun i => O (2 * i)) (fun i => O (2 * i + 1)) (L / 2) nr' ∧ ∀ i, i < L / 2 → f' i = nI (O (2 * i)) ∧ se' i = nI (O (2 * i + 1))) ∨ (¬ okPl n L (fun i => O (2 * i)) (fun i => O (2 * i + 1)) ∧ ∃ q, dn_X4_take f nr se (nI L) by_ (nI n) = some q ∧ q.1 = false) := by
  unfold dn_X4_take
  rw [show (2 : Int32) = nI 2 from rfl, pk_rem (by omega) (by omega) (by omega), show (40 : Int32) = nI 40 from rfl]
  simp only [pz_e0 (show L % 2 < 2 ^ 31 by omega), pz_le (show L < 2 ^ 31 by omega) (show 40 < 2 ^ 31 by omega)]
  by_cases c1 : L % 2 = 0
  · by_cases c2 : L ≤ 40
    · rw [if_pos c1, if_pos c2]
      have key := pz_relE (fun k (a : (Nat → Int32) × (Nat → Int32) × (Nat → Int32)) => gn_X4_take_0 (nI L) by_ (nI n) (nI (2 * k)) (nI k) (nI (mtK (fun i => O (2 * i)) (fun i => O (2 * i + 1)) k)) a.1 a.2.1 a.2.2) (L / 2)
        (fun k a => okPr n (fun i => O (2 * i)) (fun i => O (2 * i + 1)) k ∧ nearO (fun i => O (2 * i)) (fun i => O (2 * i + 1)) k a.1 ∧ ∀ i, i < k → a.2.1 i = nI (O (2 * i)) ∧ a.2.2 i = nI (O (2 * i + 1)))
        (fun r => ¬ okPr n (fun i => O (2 * i)) (fun i => O (2 * i + 1)) (L / 2) ∧ ∃ q, r = some q ∧ q.1 = false) (by
          intro k a hk ⟨h1, h2, h3⟩
          show (∃ a', _ ∧ gn_X4_take_0 _ _ _ _ _ _ _ _ _ = gn_X4_take_0 _ _ _ _ _ _ _ _ _) ∨ _
          have ho := (h (2 * k) (by omega)).1
          have ho1 := (h (2 * k + 1) (by omega)).1
          have e0 : ¬ nI L ≤ nI (2 * k) + 1 := by
            rw [nI_1]; exact nI_ge (a := 2 * k + 1) (b := L) (by omega) (by omega)
          have e1 : by_ (2 * k) &&& 255 = nI (O (2 * k)) := by rw [(h (2 * k) (by omega)).2, sb_and _ ho]
          have e2 : by_ (2 * k + 1) &&& 255 = nI (O (2 * k + 1)) := by rw [(h (2 * k + 1) (by omega)).2, sb_and _ ho1]
          have hg : gn_X4_take_0 (nI L) by_ (nI n) (nI (2 * k)) (nI k) (nI (mtK (fun i => O (2 * i)) (fun i => O (2 * i + 1)) k)) a.1 a.2.1 a.2.2 = if n ≤ O (2 * k) then some (false, nI k, nI (mtK (fun i => O (2 * i)) (fun i => O (2 * i + 1)) k), a.1, a.2.1, a.2.2) else if n ≤ O (2 * k + 1) then some (false, nI k, nI (mtK (fun i => O (2 * i)) (fun i => O (2 * i + 1)) k), a.1, a.2.1, a.2.2) else if O (2 * k) = O (2 * k + 1) then some (false, nI k, nI (mtK (fun i => O (2 * i)) (fun i => O (2 * i + 1)) k), a.1, a.2.1, a.2.2) else Option.bind (dn_X4_addPair (nI k) (nI (mtK (fun i => O (2 * i)) (fun i => O (2 * i + 1)) k)) a.2.1 a.1 a.2.2 (nI (O (2 * k))) (nI (O (2 * k + 1)))) fun q10 => gn_X4_take_0 (nI L) by_ (nI n) (nI (2 * k) + 2) q10.2.2.1 q10.2.2.2.2 q10.2.2.2.1 q10.1 q10.2.1 := by
            rw [gq_X4_take_0, if_neg e0, inb_nI (show 2 * k < 940 by omega) (by omega), if_pos rfl, nI_1, inb_nI (show 2 * k + 1 < 940 by omega) (by omega), if_pos rfl, nI_clamp (by omega), nI_clamp (by omega), e1, e2]
            simp only [pz_le (show n < 2 ^ 31 by omega) (show O (2 * k) < 2 ^ 31 by omega), pz_le (show n < 2 ^ 31 by omega) (show O (2 * k + 1) < 2 ^ 31 by omega), pz_eq (show O (2 * k) < 2 ^ 31 by omega) (show O (2 * k + 1) < 2 ^ 31 by omega)]
          by_cases d1 : n ≤ O (2 * k)
          · rw [if_pos d1] at hg
            exact Or.inr ⟨fun x => by have := (x k hk).1; simp only at this; omega, _, hg, rfl⟩
          · by_cases d2 : n ≤ O (2 * k + 1)
            · rw [if_neg d1, if_pos d2] at hg
              exact Or.inr ⟨fun x => by have := (x k hk).2.1; simp only at this; omega, _, hg, rfl⟩
            · by_cases d3 : O (2 * k) = O (2 * k + 1)
              · rw [if_neg d1, if_neg d2, if_pos d3] at hg
                exact Or.inr ⟨fun x => (x k hk).2.2 d3, _, hg, rfl⟩
              · rw [if_neg d1, if_neg d2, if_neg d3, c_addPair (A := O) (B := O) (by omega) _ _ _ (by omega) (by omega), Option.bind_some, show (2 : Int32) = nI 2 from rfl, nI_add, show 2 * k + 2 = 2 * (k + 1) from by omega] at hg
                refine Or.inl ⟨(_, _, _), ⟨fun i hi => ?_, near_up (A := fun i => O (2 * i)) (B := fun i => O (2 * i + 1)) h2 (show O (2 * k) < 10 by omega) (show O (2 * k + 1) < 10 by omega) d3, fun i hi => ?_⟩, hg⟩
                · by_cases e : i = k
                  · subst e; exact ⟨by simp only; omega, by simp only; omega, d3⟩
                  · exact h1 i (by omega)
                · show upd _ _ _ i = _ ∧ upd _ _ _ i = _
                  unfold upd
                  by_cases e : i = k
                  · subst e; rw [if_pos rfl, if_pos rfl]; exact ⟨rfl, rfl⟩
                  · rw [if_neg e, if_neg e]; exact h3 i (by omega)) (L / 2) 0 (jfill 10 nr 0, f, se) (by omega) ⟨fun i hi => by omega, fun p hp => by
                    show jfill 10 nr 0 p = nI 0
                    unfold jfill
                    rw [if_pos hp]; rfl, fun i hi => by omega⟩
      rcases key with ⟨a, ⟨k1, k2, k3⟩, k4⟩ | ⟨k1, q, k2, k3⟩
      · left
        refine ⟨⟨c1, c2, k1⟩, a.1, a.2.1, a.2.2, ?_, k2, k3⟩
        have k5 : gn_X4_take_0 (nI L) by_ (nI n) 0 0 0 (jfill 10 nr 0) f se = gn_X4_take_0 (nI L) by_ (nI n) (nI (2 * (L / 2))) (nI (L / 2)) (nI (mtK (fun i => O (2 * i)) (fun i => O (2 * i + 1)) (L / 2))) a.1 a.2.1 a.2.2 := k4
        rw [k5, gq_X4_take_0, if_pos (by rw [nI_1]; exact nI_le (by omega) (by omega))]
      · right
        exact ⟨fun x => k1 x.2.2, q, k2, k3⟩
    · rw [if_pos c1, if_neg c2]
      exact Or.inr ⟨fun x => c2 x.2.1, _, rfl, rfl⟩
  · rw [if_neg c1]
    exact Or.inr ⟨fun x => c1 x.1, _, rfl, rfl⟩
theorem m_takes (T : tT) (hw : twf T) (s : Nat → Int32) (hs : mT T s) {O : Nat → Nat} {ta : Nat → Int32} (h : ∀ k, k < 940 → O k < 256 ∧ ta k = sbT (O k)) {L : Nat} (hL : L ≤ 940) (pr me : Int32) : (okPl (T 0 0) L (fun i => O (2 * i)) (fun i => O (2 * i + 1)) ∧ dn_X12_takesPairs (nI L) pr me s ta = some (true, nI L, 0, 0, 940, nI (L / 2), nI (mtK (fun i => O (2 * i)) (fun i => O (2 * i + 1)) (L / 2)))) ∨ (¬ okPl (T 0 0) L (fun i => O (2 * i)) (fun i => O (2 * i + 1)) ∧ ∃ q, dn_X12_takesPairs (nI L) pr me s ta = some q ∧ q.1 = false ∧ q.2.2.1 = 0) := by
  have hn := hw.p
  unfold dn_X12_takesPairs dn_X12_taken
  rw [Option.bind_some]
  simp only
  rw [show (2 : Int32) = nI 2 from rfl, pk_rem (by omega) (by omega) (by omega), show (40 : Int32) = nI 40 from rfl]
  simp only [pz_e1 (show L % 2 < 2 ^ 31 by omega), pz_le (show L < 2 ^ 31 by omega) (show 40 < 2 ^ 31 by omega)]
  by_cases c1 : L % 2 = 1
  · rw [if_pos c1]
    exact Or.inr ⟨fun x => by have := x.1; omega, _, rfl, rfl, rfl⟩
  · by_cases c2 : L ≤ 40
    · rw [if_neg c1, if_pos c2, pk_div (by omega) (by omega) (by omega)]
      have key := pz_relE (fun k (_ : Unit) => gn_X12_takesPairs_0 s ta (nI k) (nI L) 0 0 940 (nI (L / 2)) (nI (mtK (fun i => O (2 * i)) (fun i => O (2 * i + 1)) k))) (L / 2)
        (fun k _ => okPr (T 0 0) (fun i => O (2 * i)) (fun i => O (2 * i + 1)) k)
        (fun r => ¬ okPr (T 0 0) (fun i => O (2 * i)) (fun i => O (2 * i + 1)) (L / 2) ∧ ∃ q, r = some q ∧ q.1 = false ∧ q.2.2.1 = 0) (by
          intro k a hk h1
          show (∃ a' : Unit, _ ∧ gn_X12_takesPairs_0 _ _ _ _ _ _ _ _ _ = gn_X12_takesPairs_0 _ _ _ _ _ _ _ _ _) ∨ _
          have ho := (h (2 * k) (by omega)).1
          have ho1 := (h (2 * k + 1) (by omega)).1
          have e1 := m_octet h (k := 2 * k) (by omega)
          have e2 := m_octet h (k := 2 * k + 1) (by omega)
          have e3 : (2 : Int32) * nI k = nI (2 * k) := by rw [show (2 : Int32) = nI 2 from rfl, pk_mul]
          rw [gq_X12_takesPairs_0, if_neg (nI_ge hk (by omega)), e3, nI_1, e1, Option.bind_some]
          by_cases d1 : T 0 0 ≤ O (2 * k)
          · rw [m_isPerson_f T hw s hs (Or.inr (nI_le d1 (by omega)))]
            exact Or.inr ⟨fun x => by have := (x k hk).1; simp only at this; omega, _, rfl, rfl, rfl⟩
          · rw [m_isPerson_t T hw s hs (by omega), Option.bind_some, if_pos rfl, e2, Option.bind_some]
            by_cases d2 : T 0 0 ≤ O (2 * k + 1)
            · rw [m_isPerson_f T hw s hs (Or.inr (nI_le d2 (by omega)))]
              exact Or.inr ⟨fun x => by have := (x k hk).2.1; simp only at this; omega, _, rfl, rfl, rfl⟩
            · rw [m_isPerson_t T hw s hs (by omega), Option.bind_some, if_pos rfl, Option.bind_some, Option.bind_some]
              by_cases d3 : O (2 * k) = O (2 * k + 1)
              · rw [if_pos (by rw [d3])]
                exact Or.inr ⟨fun x => (x k hk).2.2 d3, _, rfl, rfl, rfl⟩
              · rw [if_neg (by rw [pz_eq (by omega) (by omega)]; exact d3), Option.bind_some, Option.bind_some, pz_1shl (by omega), pz_1shl (by omega), pz_or, pz_or, nI_1]
                refine Or.inl ⟨(), fun i hi => ?_, rfl⟩
                by_cases e : i = k
                · subst e; exact ⟨by simp only; omega, by simp only; omega, d3⟩
                · exact h1 i (by omega)) (L / 2) 0 () (by omega) (fun i hi => by omega)
      rcases key with ⟨a, k1, k4⟩ | ⟨k1, q, k2, k3⟩
      · left
        refine ⟨⟨by omega, c2, k1⟩, ?_⟩
        have k5 : gn_X12_takesPairs_0 s ta 0 (nI L) 0 0 940 (nI (L / 2)) 0 = gn_X12_takesPairs_0 s ta (nI (L / 2)) (nI L) 0 0 940 (nI (L / 2)) (nI (mtK (fun i => O (2 * i)) (fun i => O (2 * i + 1)) (L / 2))) := k4
        rw [k5, gq_X12_takesPairs_0, if_pos (nI_le (Nat.le_refl _) (by omega))]
      · right
        exact ⟨fun x => k1 x.2.2, q, k2, k3⟩
    · rw [if_neg c1, if_neg c2]
      exact Or.inr ⟨fun x => c2 x.2.1, _, rfl, rfl, rfl⟩
