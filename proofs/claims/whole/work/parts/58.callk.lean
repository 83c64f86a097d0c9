/-! ===== pure rows: going between; runs by seeds; plain answers ===== -/
def btK (T : tT) (D : tD) (y p : Nat) : Nat → Nat × Nat
  | 0 => (0, 0)
  | k + 1 => if T 10 k = y ∧ isInT T k p = true ∧ dnT D k = 0 then ((btK T D y p k).1 ||| (if (T 9 k = p ∨ T 13 k = 1) ∧ isT T D (othT T k p) y ≠ 2 then 2 ^ othT T k p else 0), (btK T D y p k).2 ||| (if (T 8 k = p ∨ T 13 k = 1) ∧ isT T D (othT T k p) y ≠ 1 then 2 ^ othT T k p else 0)) else btK T D y p k
def btT (T : tT) (D : tD) (y p : Nat) : Bool := decide (T 4 p ≤ y) && decide (y ≤ T 5 p) && decide (isT T D p y = 0) && decide ((btK T D y p (T 1 0)).1 ≠ 0) && decide ((btK T D y p (T 1 0)).2 ≠ 0) && decide (1 < pcF 16 ((btK T D y p (T 1 0)).1 ||| (btK T D y p (T 1 0)).2))
theorem othT_lt {T : tT} (hw : twf T) {d : Nat} (hd : d < T 1 0) (p : Nat) : othT T d p < T 0 0 := by
  have := hw.ds hd
  unfold othT
  split
  · exact this.2.1
  · exact this.1
theorem btK_lt {T : tT} (hw : twf T) (D : tD) (y p : Nat) : ∀ k, k ≤ T 1 0 → (btK T D y p k).1 < 2 ^ T 0 0 ∧ (btK T D y p k).2 < 2 ^ T 0 0
  | 0, _ => ⟨Nat.two_pow_pos _, Nat.two_pow_pos _⟩
  | k + 1, h => by
    have ih := btK_lt hw D y p k (by omega)
    have ho := othT_lt hw (show k < T 1 0 by omega) p
    unfold btK
    split
    · refine ⟨Nat.or_lt_two_pow ih.1 ?_, Nat.or_lt_two_pow ih.2 ?_⟩
      · split
        · exact pz_p2 ho
        · exact Nat.two_pow_pos _
      · split
        · exact pz_p2 ho
        · exact Nat.two_pow_pos _
    · exact ih
theorem c_goesBetween (T : tT) (hw : twf T) (D : tD) (hD : dwf T D) (dl wy fd : Nat → Int32) (hB : cB T D dl wy fd) (b : Nat → Int32) (hb : ∀ d, d < T 1 0 → b d = nI (T 9 d)) (e : Nat → Int32) (he : ∀ d, d < T 1 0 → e d = nI (T 13 d)) (l : Nat → Int32) (hl : ∀ d, d < T 1 0 → l d = nI (T 8 d)) (y : Nat → Int32) (hy : ∀ d, d < T 1 0 → y d = nI (T 10 d)) (bo di : Nat → Int32) (hbo : ∀ p, p < T 0 0 → bo p = nI (T 4 p)) (hdi : ∀ p, p < T 0 0 → di p = nI (T 5 p)) {p yy : Nat} (hp : p < T 0 0) (hyy : yy < 60) : dn_X11_goesBetween (nI D.1) dl fd wy (nI (T 1 0)) (nI (T 2 0)) bo b di e l y (nI p) (nI yy) = some (btT T D yy p) := by
  have h1 := hw.d
  have h2 := hw.p
  have hp10 := pz_10 hw.p
  have hps := hw.ps hp
  have key := pz_fun (fun k (a : Nat × Nat) => gn_X11_goesBetween_0 (nI D.1) dl fd wy (nI (T 1 0)) (nI (T 2 0)) b e l y (nI p) (nI yy) (nI a.1) (nI a.2) (nI k)) (btK T D yy p) (T 1 0) (by
    intro k hk
    show gn_X11_goesBetween_0 _ _ _ _ _ _ _ _ _ _ _ _ _ _ _ = gn_X11_goesBetween_0 _ _ _ _ _ _ _ _ _ _ _ _ _ _ _
    have d := hw.ds hk
    have hdn := dnT_le hD k
    have ho := othT_lt hw hk p
    have hi := isT_le T D (othT T k p) yy
    have e1 : btK T D yy p (k + 1) = if T 10 k = yy ∧ isInT T k p = true ∧ dnT D k = 0 then ((btK T D yy p k).1 ||| (if (T 9 k = p ∨ T 13 k = 1) ∧ isT T D (othT T k p) yy ≠ 2 then 2 ^ othT T k p else 0), (btK T D yy p k).2 ||| (if (T 8 k = p ∨ T 13 k = 1) ∧ isT T D (othT T k p) yy ≠ 1 then 2 ^ othT T k p else 0)) else btK T D yy p k := rfl
    have key : ∀ (L Bo : Nat) (v : Nat), v ≤ 1 → (v = 1 ↔ T 13 k = 1) → gn_X11_goesBetween_1 (nI D.1) dl fd wy (nI (T 1 0)) (nI (T 2 0)) b e l y (nI p) (nI yy) (nI L) (nI Bo) (nI k) (nI (othT T k p)) (nI (isT T D (othT T k p) yy)) (nI v) = gn_X11_goesBetween_0 (nI D.1) dl fd wy (nI (T 1 0)) (nI (T 2 0)) b e l y (nI p) (nI yy) (nI (L ||| (if (T 9 k = p ∨ T 13 k = 1) ∧ isT T D (othT T k p) yy ≠ 2 then 2 ^ othT T k p else 0))) (nI (Bo ||| (if (T 8 k = p ∨ T 13 k = 1) ∧ isT T D (othT T k p) yy ≠ 1 then 2 ^ othT T k p else 0))) (nI (k + 1)) := by
      intro L Bo v hv hv2
      have hv3 : (v = 0) = ¬ T 13 k = 1 := by
        apply propext
        rw [← hv2]; omega
      simp only [gq_X11_goesBetween_1, gq_X11_goesBetween_2, gq_X11_goesBetween_3, gq_X11_goesBetween_4, inb_nI (show k < 30 by omega) (show 30 < 2 ^ 31 by omega), if_true, nI_clamp (show k < 2 ^ 31 by omega), hb k hk, hl k hk, pz_eq (show T 9 k < 2 ^ 31 by omega) (show p < 2 ^ 31 by omega), pz_eq (show T 8 k < 2 ^ 31 by omega) (show p < 2 ^ 31 by omega), pz_e0 (show v < 2 ^ 31 by omega), pz_e1 (show isT T D (othT T k p) yy < 2 ^ 31 by omega), pz_e2 (show isT T D (othT T k p) yy < 2 ^ 31 by omega), pz_1shl (show othT T k p < 32 by omega), pz_or, nI_1, hv3]
      by_cases c1 : T 9 k = p <;> by_cases c2 : T 8 k = p <;> by_cases c3 : T 13 k = 1 <;> by_cases c4 : isT T D (othT T k p) yy = 2 <;> by_cases c5 : isT T D (othT T k p) yy = 1 <;> simp [c1, c2, c3, c4, c5]
    rw [gq_X11_goesBetween_0, if_neg (nI_ge hk (by omega)), inb_nI (by omega) (by omega), if_pos rfl, nI_clamp (by omega), hy k hk, e1, c_isIn T hw b hb l hl hk (by omega), Option.bind_some, c_wayDone T hw D hD dl wy fd hB (by omega), Option.bind_some, c_otherIn T hw b hb l hl hk (by omega), Option.bind_some, c_whatIs T hw D hD dl wy fd hB b hb l hl y hy ho (by omega), Option.bind_some, he k hk, if_pos rfl, nI_1]
    simp only [pz_eq (show T 10 k < 2 ^ 31 by omega) (show yy < 2 ^ 31 by omega), pz_e0 (show dnT D k < 2 ^ 31 by omega), pz_e1 (show T 13 k < 2 ^ 31 by omega)]
    by_cases c1 : T 10 k = yy
    · by_cases c2 : isInT T k p = true
      · by_cases c3 : dnT D k = 0
        · by_cases c4 : T 13 k = 1
          · rw [if_pos c1, if_pos c2, if_pos c3, if_pos c4, if_pos (show T 10 k = yy ∧ isInT T k p = true ∧ dnT D k = 0 from ⟨c1, c2, c3⟩), show (1 : Int32) = nI 1 from rfl, key _ _ 1 (by omega) (by simp [c4])]
          · rw [if_pos c1, if_pos c2, if_pos c3, if_neg c4, if_pos (show T 10 k = yy ∧ isInT T k p = true ∧ dnT D k = 0 from ⟨c1, c2, c3⟩), show (0 : Int32) = nI 0 from rfl, key _ _ 0 (by omega) (by simp [c4])]
        · rw [if_pos c1, if_pos c2, if_neg c3, if_neg (fun x => c3 x.2.2)]
      · rw [if_pos c1, if_neg c2, if_neg (fun x => c2 x.2.1)]
    · rw [if_neg c1, if_neg (fun x => c1 x.1)]) (T 1 0) (Nat.le_refl _)
  have key' : gn_X11_goesBetween_0 (nI D.1) dl fd wy (nI (T 1 0)) (nI (T 2 0)) b e l y (nI p) (nI yy) 0 0 0 = gn_X11_goesBetween_0 (nI D.1) dl fd wy (nI (T 1 0)) (nI (T 2 0)) b e l y (nI p) (nI yy) (nI (btK T D yy p (T 1 0)).1) (nI (btK T D yy p (T 1 0)).2) (nI (T 1 0)) := key
  have hlt := btK_lt hw D yy p (T 1 0) (Nat.le_refl _)
  have hor : (btK T D yy p (T 1 0)).1 ||| (btK T D yy p (T 1 0)).2 < 2 ^ T 0 0 := Nat.or_lt_two_pow hlt.1 hlt.2
  have hpc := pcF_le 16 ((btK T D yy p (T 1 0)).1 ||| (btK T D yy p (T 1 0)).2)
  have hii := isT_le T D p yy
  unfold dn_X11_goesBetween btT
  rw [inb_nI (by omega) (by omega), if_pos rfl, if_pos rfl, nI_clamp (by omega), hbo p hp, hdi p hp, c_whatIs T hw D hD dl wy fd hB b hb l hl y hy hp (by omega), Option.bind_some, key', gq_X11_goesBetween_0, if_pos (nI_le (Nat.le_refl _) (by omega)), pz_or, c_bits (by omega), Option.bind_some]
  simp only [pz_lt (show yy < 2 ^ 31 by omega) (show T 4 p < 2 ^ 31 by omega), pz_lt (show T 5 p < 2 ^ 31 by omega) (show yy < 2 ^ 31 by omega), pz_e0 (show isT T D p yy < 2 ^ 31 by omega), pz_e0 (show (btK T D yy p (T 1 0)).1 < 2 ^ 31 by omega), pz_e0 (show (btK T D yy p (T 1 0)).2 < 2 ^ 31 by omega), show (1 : Int32) = nI 1 from rfl, pz_le (show pcF 16 ((btK T D yy p (T 1 0)).1 ||| (btK T D yy p (T 1 0)).2) < 2 ^ 31 by omega) (show 1 < 2 ^ 31 by omega)]
  by_cases c1 : yy < T 4 p
  · simp [c1, show ¬ T 4 p ≤ yy from by omega]
  · by_cases c2 : T 5 p < yy
    · simp [c1, c2, show ¬ yy ≤ T 5 p from by omega]
    · by_cases c3 : isT T D p yy = 0
      · by_cases c4 : (btK T D yy p (T 1 0)).1 = 0
        · simp [c1, c2, c3, c4]
        · by_cases c5 : (btK T D yy p (T 1 0)).2 = 0
          · simp [c1, c2, c3, c4, c5]
          · by_cases c6 : pcF 16 ((btK T D yy p (T 1 0)).1 ||| (btK T D yy p (T 1 0)).2) ≤ 1
            · simp [c1, c2, c3, c4, c5, c6, show ¬ 1 < pcF 16 ((btK T D yy p (T 1 0)).1 ||| (btK T D yy p (T 1 0)).2) from by omega]
            · simp [c1, c2, c3, c4, c5, c6, show T 4 p ≤ yy from by omega, show yy ≤ T 5 p from by omega, show 1 < pcF 16 ((btK T D yy p (T 1 0)).1 ||| (btK T D yy p (T 1 0)).2) from by omega]
      · simp [c1, c2, c3]
theorem m_between1 (T : tT) (hw : twf T) (D : tD) (hD : dwf T D) (s : Nat → Int32) (hs : mT T s) (hs3 : mB D s) (ba bf : Nat → Int32) {p yy : Nat} (hm : mbR T yy D.1 D.2 ba bf) (hp : p < T 0 0) (hyy : yy < 60) (v2 : Int32) : gn_X12_between_1 s (nI yy) v2 (nI p) 0 0 0 0 ba bf = if (btK T D yy p (T 1 0)).1 ≠ 0 ∧ (btK T D yy p (T 1 0)).2 ≠ 0 ∧ 1 < pcF 16 ((btK T D yy p (T 1 0)).1 ||| (btK T D yy p (T 1 0)).2) then gn_X12_between_0 s (nI yy) (v2 ||| nI (2 ^ p)) (nI (p + 1)) 0 ba bf else gn_X12_between_0 s (nI yy) v2 (nI (p + 1)) 0 ba bf := by
  have h1 := hw.d
  have h2 := hw.p
  have hp10 := pz_10 hw.p
  have key := pz_fun (fun k (a : Nat × Nat) => gn_X12_between_1 s (nI yy) v2 (nI p) (nI a.1) (nI a.2) (nI k) 0 ba bf) (btK T D yy p) (T 1 0) (by
    intro k hk
    show gn_X12_between_1 _ _ _ _ _ _ _ _ _ _ = gn_X12_between_1 _ _ _ _ _ _ _ _ _ _
    have d := hw.ds hk
    have hdn := dnT_le hD k
    have ho := othT_lt hw hk p
    have hi := isT_le T D (othT T k p) yy
    have e1 : btK T D yy p (k + 1) = if T 10 k = yy ∧ isInT T k p = true ∧ dnT D k = 0 then ((btK T D yy p k).1 ||| (if (T 9 k = p ∨ T 13 k = 1) ∧ isT T D (othT T k p) yy ≠ 2 then 2 ^ othT T k p else 0), (btK T D yy p k).2 ||| (if (T 8 k = p ∨ T 13 k = 1) ∧ isT T D (othT T k p) yy ≠ 1 then 2 ^ othT T k p else 0)) else btK T D yy p k := rfl
    have hnow : dn_X12_now ba bf s (nI (othT T k p)) (nI yy) = some (nI (isT T D (othT T k p) yy)) := m_now T hw s hs D hD ba bf (Nat.le_refl _) ho (by omega) hm
    rw [e1, gq_X12_between_1, show (1 : Int32).toNatClampNeg = 1 from rfl, hs.2.1, if_neg (nI_ge hk (by omega))]
    have h3 : gn_X12_between_3 s (nI yy) v2 (nI p) (nI (btK T D yy p k).1) (nI (btK T D yy p k).2) (nI k) (nI (othT T k p)) 0 ba bf = gn_X12_between_1 s (nI yy) v2 (nI p) (nI ((btK T D yy p k).1 ||| (if (T 9 k = p ∨ T 13 k = 1) ∧ isT T D (othT T k p) yy ≠ 2 then 2 ^ othT T k p else 0))) (nI ((btK T D yy p k).2 ||| (if (T 8 k = p ∨ T 13 k = 1) ∧ isT T D (othT T k p) yy ≠ 1 then 2 ^ othT T k p else 0))) (nI (k + 1)) 0 ba bf := by
      simp only [gq_X12_between_3, gq_X12_between_4, gq_X12_between_5, gq_X12_between_6, m_of0 T hw s hs hk, m_of1 T hw s hs hk, m_of5 T hw s hs hk, Option.bind_some, hnow, pz_eq (show T 9 k < 2 ^ 31 by omega) (show p < 2 ^ 31 by omega), pz_eq (show T 8 k < 2 ^ 31 by omega) (show p < 2 ^ 31 by omega), pz_e1 (show T 13 k < 2 ^ 31 by omega), pz_e1 (show isT T D (othT T k p) yy < 2 ^ 31 by omega), pz_e2 (show isT T D (othT T k p) yy < 2 ^ 31 by omega), pz_1shl (show othT T k p < 32 by omega), pz_or, nI_1, show ¬ (1 : Int32) = 0 from by decide, if_true, if_false]
      by_cases c1 : T 9 k = p <;> by_cases c2 : T 8 k = p <;> by_cases c3 : T 13 k = 1 <;> by_cases c4 : isT T D (othT T k p) yy = 2 <;> by_cases c5 : isT T D (othT T k p) yy = 1 <;> simp [c1, c2, c3, c4, c5]
    rw [m_of2 T hw s hs hk, Option.bind_some, m_doneAs T hw D hD s hs3 (show k < 2 ^ 31 by omega), Option.bind_some]
    by_cases c1 : T 10 k = yy
    · by_cases c3 : dnT D k = 0
      · have hz : ¬ (0 : Int32) < nI (dnT D k) := by rw [c3]; decide
        by_cases c4 : T 8 k = p
        · have eo : othT T k p = T 9 k := if_pos c4
          rw [if_pos (by rw [c1]), if_neg hz, m_of0 T hw s hs hk, Option.bind_some, if_pos (by rw [c4]), gq_X12_between_2, m_of0 T hw s hs hk, Option.bind_some, if_pos (by rw [c4]), m_of1 T hw s hs hk, Option.bind_some, show nI (T 9 k) = nI (othT T k p) from by rw [eo], h3, if_pos (show T 10 k = yy ∧ isInT T k p = true ∧ dnT D k = 0 from ⟨c1, by simp [isInT, c4], c3⟩)]
        · have eo : othT T k p = T 8 k := if_neg c4
          have n4 : ¬ nI (T 8 k) = nI p := by rw [pz_eq (by omega) (by omega)]; exact c4
          by_cases c5 : T 9 k = p
          · rw [if_pos (by rw [c1]), if_neg hz, m_of0 T hw s hs hk, Option.bind_some, if_neg n4, m_of1 T hw s hs hk, Option.bind_some, if_pos (by rw [c5]), gq_X12_between_2, m_of0 T hw s hs hk, Option.bind_some, if_neg n4, Option.bind_some, show nI (T 8 k) = nI (othT T k p) from by rw [eo], h3, if_pos (show T 10 k = yy ∧ isInT T k p = true ∧ dnT D k = 0 from ⟨c1, by simp [isInT, c5], c3⟩)]
          · have n5 : ¬ nI (T 9 k) = nI p := by rw [pz_eq (by omega) (by omega)]; exact c5
            rw [if_pos (by rw [c1]), if_neg hz, m_of0 T hw s hs hk, Option.bind_some, if_neg n4, m_of1 T hw s hs hk, Option.bind_some, if_neg n5, if_neg (show ¬ (T 10 k = yy ∧ isInT T k p = true ∧ dnT D k = 0) from fun x => by have := x.2.1; simp [isInT, c4, c5] at this), nI_1]
      · rw [if_pos (by rw [c1]), if_pos (show (0 : Int32) < nI (dnT D k) from nI_lt (a := 0) (by omega) (by omega)), if_neg (show ¬ (T 10 k = yy ∧ isInT T k p = true ∧ dnT D k = 0) from fun x => c3 x.2.2), nI_1]
    · rw [if_neg (by rw [pz_eq (by omega) (by omega)]; exact c1), if_neg (show ¬ (T 10 k = yy ∧ isInT T k p = true ∧ dnT D k = 0) from fun x => c1 x.1), nI_1]) (T 1 0) (Nat.le_refl _)
  have key' : gn_X12_between_1 s (nI yy) v2 (nI p) 0 0 0 0 ba bf = gn_X12_between_1 s (nI yy) v2 (nI p) (nI (btK T D yy p (T 1 0)).1) (nI (btK T D yy p (T 1 0)).2) (nI (T 1 0)) 0 ba bf := key
  have hlt := btK_lt hw D yy p (T 1 0) (Nat.le_refl _)
  have hor : (btK T D yy p (T 1 0)).1 ||| (btK T D yy p (T 1 0)).2 < 2 ^ T 0 0 := Nat.or_lt_two_pow hlt.1 hlt.2
  have hpc := pcF_le 16 ((btK T D yy p (T 1 0)).1 ||| (btK T D yy p (T 1 0)).2)
  rw [key', gq_X12_between_1, show (1 : Int32).toNatClampNeg = 1 from rfl, hs.2.1, if_pos (nI_le (Nat.le_refl _) (by omega)), pz_or, m_bits (by omega), Option.bind_some, pz_1shl (by omega), nI_1]
  simp only [pz_e0 (show (btK T D yy p (T 1 0)).1 < 2 ^ 31 by omega), pz_e0 (show (btK T D yy p (T 1 0)).2 < 2 ^ 31 by omega), show (1 : Int32) = nI 1 from rfl, pz_le (show pcF 16 ((btK T D yy p (T 1 0)).1 ||| (btK T D yy p (T 1 0)).2) < 2 ^ 31 by omega) (show 1 < 2 ^ 31 by omega)]
  by_cases c4 : (btK T D yy p (T 1 0)).1 = 0
  · simp [c4]
  · by_cases c5 : (btK T D yy p (T 1 0)).2 = 0
    · simp [c4, c5]
    · by_cases c6 : pcF 16 ((btK T D yy p (T 1 0)).1 ||| (btK T D yy p (T 1 0)).2) ≤ 1
      · simp [c4, c5, c6, show ¬ 1 < pcF 16 ((btK T D yy p (T 1 0)).1 ||| (btK T D yy p (T 1 0)).2) from by omega]
      · simp [c4, c5, c6, show 1 < pcF 16 ((btK T D yy p (T 1 0)).1 ||| (btK T D yy p (T 1 0)).2) from by omega]
theorem j_between (T : tT) (hw : twf T) (D : tD) (hD : dwf T D) (dl wy fd : Nat → Int32) (hB : cB T D dl wy fd) (b : Nat → Int32) (hb : ∀ d, d < T 1 0 → b d = nI (T 9 d)) (e : Nat → Int32) (he : ∀ d, d < T 1 0 → e d = nI (T 13 d)) (l : Nat → Int32) (hl : ∀ d, d < T 1 0 → l d = nI (T 8 d)) (y : Nat → Int32) (hy : ∀ d, d < T 1 0 → y d = nI (T 10 d)) (bo di : Nat → Int32) (hbo : ∀ p, p < T 0 0 → bo p = nI (T 4 p)) (hdi : ∀ p, p < T 0 0 → di p = nI (T 5 p)) (s : Nat → Int32) (hs : mT T s) (hs3 : mB D s) (ba bf : Nat → Int32) (p1 : Int32) : ∃ q1, dn_X11_between (nI D.1) dl fd wy (nI (T 0 0)) (nI (T 1 0)) (nI (T 2 0)) bo b di e l y p1 = some q1 ∧ ∃ q2, dn_X12_between ba bf s p1 = some q2 ∧ q1 = q2.1 := by
  have h1 := hw.d
  have h2 := hw.p
  unfold dn_X11_between dn_X12_between
  rcases pz_ix p1 (n := 60) (by omega) with hy2 | ⟨yy, hyy, rfl⟩
  · rw [c_isYear_f hy2, m_in59_f hy2]
    exact ⟨_, rfl, _, rfl, rfl⟩
  · obtain ⟨ba1, bf1, g1, g2⟩ := m_bind T hw s hs D hD hs3 ba bf (yy := yy) (by omega)
    have key := pz_fun (fun k (a : Nat) => gn_X11_between_0 (nI D.1) dl fd wy (nI (T 0 0)) (nI (T 1 0)) (nI (T 2 0)) bo b di e l y (nI yy) (nI a) (nI k)) (bs (btT T D yy)) (T 0 0) (by
      intro k hk
      show gn_X11_between_0 _ _ _ _ _ _ _ _ _ _ _ _ _ _ _ _ = gn_X11_between_0 _ _ _ _ _ _ _ _ _ _ _ _ _ _ _ _
      rw [gq_X11_between_0, if_neg (nI_ge hk (by omega)), c_goesBetween T hw D hD dl wy fd hB b hb e he l hl y hy bo di hbo hdi hk hyy, Option.bind_some, ← bs_stepN (show k < 32 by omega), nI_1]
      split <;> rfl) (T 0 0) (Nat.le_refl _)
    have key' : gn_X11_between_0 (nI D.1) dl fd wy (nI (T 0 0)) (nI (T 1 0)) (nI (T 2 0)) bo b di e l y (nI yy) 0 0 = some (nI (bs (btT T D yy) (T 0 0))) := by
      have : gn_X11_between_0 (nI D.1) dl fd wy (nI (T 0 0)) (nI (T 1 0)) (nI (T 2 0)) bo b di e l y (nI yy) 0 0 = gn_X11_between_0 (nI D.1) dl fd wy (nI (T 0 0)) (nI (T 1 0)) (nI (T 2 0)) bo b di e l y (nI yy) (nI (bs (btT T D yy) (T 0 0))) (nI (T 0 0)) := key
      rw [this, gq_X11_between_0, if_pos (nI_le (Nat.le_refl _) (by omega))]
    have ke2 := pz_fun (fun k (a : Nat) => gn_X12_between_0 s (nI yy) (nI a) (nI k) 0 ba1 bf1) (bs (btT T D yy)) (T 0 0) (by
      intro k hk
      show gn_X12_between_0 _ _ _ _ _ _ _ = gn_X12_between_0 _ _ _ _ _ _ _
      have hps := hw.ps hk
      have hsk := hs.ps hk
      have hii := isT_le T D k yy
      have hnow : dn_X12_now ba1 bf1 s (nI k) (nI yy) = some (nI (isT T D k yy)) := m_now T hw s hs D hD ba1 bf1 (Nat.le_refl _) hk (by omega) g2
      have hin : dn_X12_isIn (nI yy) (nI (T 4 k)) (nI (T 5 k)) = some (decide (T 4 k ≤ yy) && decide (yy ≤ T 5 k)) := by
        by_cases c1 : T 4 k ≤ yy ∧ yy ≤ T 5 k
        · rw [m_isInc_t (by omega) c1.1 c1.2]; simp [c1]
        · rw [m_isInc_f (by omega) (by omega) (by omega) (by omega)]
          by_cases c2 : T 4 k ≤ yy
          · simp [c2, show ¬ yy ≤ T 5 k from by omega]
          · simp [c2]
      rw [gq_X12_between_0, pz_c0, hs.1, if_neg (nI_ge hk (by omega)), show (4 : Int32) = nI 4 from rfl, show (14 : Int32) = nI 14 from rfl, nI_add, nI_add, inb_nI (by omega) (by omega), inb_nI (by omega) (by omega), if_pos rfl, if_pos rfl, nI_clamp (by omega), nI_clamp (by omega), hsk.1, hsk.2.1, hin, Option.bind_some, hnow, Option.bind_some, m_between1 T hw D hD s hs hs3 ba1 bf1 g2 hk hyy, ← bs_stepN (show k < 32 by omega), pz_1shl (by omega), nI_1]
      simp only [pz_le0 (show isT T D k yy < 2 ^ 31 by omega)]
      unfold btT
      by_cases c1 : T 4 k ≤ yy <;> by_cases c2 : yy ≤ T 5 k <;> by_cases c3 : isT T D k yy = 0 <;> by_cases c4 : (btK T D yy k (T 1 0)).1 = 0 <;> by_cases c5 : (btK T D yy k (T 1 0)).2 = 0 <;> by_cases c6 : 1 < pcF 16 ((btK T D yy k (T 1 0)).1 ||| (btK T D yy k (T 1 0)).2) <;> simp [c1, c2, c3, c4, c5, c6]) (T 0 0) (Nat.le_refl _)
    have ke2' : gn_X12_between_0 s (nI yy) 0 0 0 ba1 bf1 = some (nI (bs (btT T D yy) (T 0 0)), 0, ba1, bf1) := by
      have : gn_X12_between_0 s (nI yy) 0 0 0 ba1 bf1 = gn_X12_between_0 s (nI yy) (nI (bs (btT T D yy) (T 0 0))) (nI (T 0 0)) 0 ba1 bf1 := ke2
      rw [this, gq_X12_between_0, pz_c0, hs.1, if_pos (nI_le (Nat.le_refl _) (by omega))]
    rw [c_isYear_t hyy, m_in59_t hyy, Option.bind_some, Option.bind_some, if_pos rfl, if_pos rfl, key', g1, Option.bind_some, ke2']
    exact ⟨_, rfl, _, rfl, rfl⟩
