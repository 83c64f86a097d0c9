/-! ===== pure rows: the class's next ===== -/
/-- what the class's cells hold behind next, from the place p -/
def cTk (O : Nat → Nat) (L M p : Nat) (ps nu : Int32) (na : Int64) (to : Int32) : Prop :=
  (tkK O L M p = 0 → to = 0) ∧ (tkK O L M p = 1 → to = 1 ∧ ps = nI (tkE O L p) ∧ na = lN (n32 (tkW O L p))) ∧ (tkK O L M p = 2 → to = 2 ∧ ps = nI (tkE O L p) ∧ nu = nI (tkV O L p)) ∧ (tkK O L M p = 3 → to = 3 ∧ ps = nI (tkE O L p)) ∧ (tkK O L M p = 4 → to = 4 ∨ (to = 0 ∧ M < L))
theorem tkK_no {O : Nat → Nat} {L M p : Nat} (h : ¬ tkQ O L p < min L M) : tkK O L M p = if L ≤ M then 0 else 4 := by
  unfold tkK
  rw [if_neg h]
  by_cases c : L ≤ M
  · rw [if_pos c, if_pos c]
  · rw [if_neg c, if_neg c]
theorem tkK_3 {O : Nat → Nat} {L M p : Nat} (h : tkQ O L p < min L M) (h2 : ¬ alB O (tkQ O L p) = true) : tkK O L M p = if O (tkQ O L p) = 59 then 3 else 4 := by
  unfold tkK
  rw [if_pos h, if_neg h2]
  by_cases c : O (tkQ O L p) = 59
  · rw [if_pos c, if_pos c]
  · rw [if_neg c, if_neg c]
theorem tkK_1 {O : Nat → Nat} {L M p : Nat} (h : tkQ O L p < min L M) (h2 : alB O (tkQ O L p) = true) : (allS O (tkQ O L p) (tkR O L (tkQ O L p)) ∧ tkR O L (tkQ O L p) - tkQ O L p ≤ 7 → tkK O L M p = 1) ∧ (¬ (allS O (tkQ O L p) (tkR O L (tkQ O L p)) ∧ tkR O L (tkQ O L p) - tkQ O L p ≤ 7) → (allD O (tkQ O L p) (tkR O L (tkQ O L p)) ∧ tkR O L (tkQ O L p) - tkQ O L p ≤ 2 → tkK O L M p = 2) ∧ (¬ (allD O (tkQ O L p) (tkR O L (tkQ O L p)) ∧ tkR O L (tkQ O L p) - tkQ O L p ≤ 2) → tkK O L M p = 4)) := by
  unfold tkK
  rw [if_pos h, if_pos h2]
  refine ⟨fun c => by rw [if_pos c], fun c => ⟨fun d => ?_, fun d => ?_⟩⟩
  · rw [if_neg c, if_pos d]
  · rw [if_neg c, if_neg d]
theorem tkQ_le (O : Nat → Nat) {L p : Nat} (hp : p ≤ L) : p ≤ tkQ O L p ∧ tkQ O L p ≤ L := by
  have := whQ_ge (spB O) (L - p) p
  unfold tkQ
  omega
theorem tkR_le (O : Nat → Nat) {L q : Nat} (hp : q ≤ L) : q ≤ tkR O L q ∧ tkR O L q ≤ L := by
  have := whQ_ge (alB O) (L - q) q
  unfold tkR
  omega
theorem tkR_lt {O : Nat → Nat} {L q : Nat} (hp : q < L) (h : alB O q = true) : q < tkR O L q := by
  unfold tkR
  obtain ⟨n, hn⟩ : ∃ n, L - q = n + 1 := ⟨L - q - 1, by omega⟩
  rw [hn]
  show q < (if alB O q = true then whQ (alB O) n (q + 1) else q)
  rw [if_pos h]
  have := (whQ_ge (alB O) n (q + 1)).1
  omega
theorem tkR_eq {O : Nat → Nat} {L q : Nat} (h : ¬ alB O q = true) : tkR O L q = q := by
  unfold tkR
  cases L - q with
  | zero => rfl
  | succ n =>
    show (if alB O q = true then whQ (alB O) n (q + 1) else q) = q
    rw [if_neg h]
theorem c_read {O : Nat → Nat} {by_ : Nat → Int32} (h : ∀ k, k < 940 → O k < 256 ∧ by_ k = sbT (O k)) {L q : Nat} (hL : L ≤ 940) (hq : q ≤ L) (to : Int32) : ∃ nu na t2, dn_X9_readWordOrNumber (nI L) to (nI q) by_ = some (nu, na, nI (tkR O L q), t2) ∧ (allS O q (tkR O L q) → na = lN (n32 (wdK O q (tkR O L q - q)))) ∧ (allD O q (tkR O L q) → nu = nI (nuK O q (tkR O L q - q))) ∧ ((allS O q (tkR O L q) ∧ tkR O L q - q ≤ 7 → t2 = 1) ∧ (¬ (allS O q (tkR O L q) ∧ tkR O L q - q ≤ 7) → (allD O q (tkR O L q) ∧ tkR O L q - q ≤ 2 → t2 = 2) ∧ (¬ (allD O q (tkR O L q) ∧ tkR O L q - q ≤ 2) → t2 = 4))) := by
  have hrl := tkR_le O hq
  obtain ⟨a, d, nu, na, h1, i1, i2, i3, i4, i5, i6⟩ := c_run h (q := q) hL to (L - q) q 0 0 0 0 (by omega) ⟨Nat.le_refl _, by omega, ⟨fun _ k h1 h2 => by omega, fun _ => rfl⟩, ⟨fun _ k h1 h2 => by omega, fun _ => rfl⟩, fun _ => by rw [Nat.sub_self]; rfl, fun _ => by rw [Nat.sub_self]; rfl⟩
  unfold dn_X9_readWordOrNumber
  have h1' : gn_X9_readWordOrNumber_0 (nI L) by_ 0 0 0 0 (nI q) to = gn_X9_readWordOrNumber_1 (nI L) by_ (nI a) (nI d) nu na (nI (tkR O L q)) to := h1
  have i3' : d = 0 ↔ allS O q (tkR O L q) := i3
  have i4' : a = 0 ↔ allD O q (tkR O L q) := i4
  have i2' : a + d = tkR O L q - q := i2
  rw [h1', gq_X9_readWordOrNumber_1]
  simp only [gq_X9_readWordOrNumber_3, gq_X9_readWordOrNumber_4, show (7 : Int32) = nI 7 from rfl, show (2 : Int32) = nI 2 from rfl, pz_e0 (show d < 2 ^ 31 by omega), pz_e0 (show a < 2 ^ 31 by omega), pz_lt (show 7 < 2 ^ 31 by omega) (show a < 2 ^ 31 by omega), pz_lt (show 2 < 2 ^ 31 by omega) (show d < 2 ^ 31 by omega)]
  have fin : ∀ t2 : Int32, (d = 0 ∧ a ≤ 7 → t2 = 1) → (¬ (d = 0 ∧ a ≤ 7) → a = 0 ∧ d ≤ 2 → t2 = nI 2) → (¬ (d = 0 ∧ a ≤ 7) → ¬ (a = 0 ∧ d ≤ 2) → t2 = 4) → (allS O q (tkR O L q) → na = lN (n32 (wdK O q (tkR O L q - q)))) ∧ (allD O q (tkR O L q) → nu = nI (nuK O q (tkR O L q - q))) ∧ ((allS O q (tkR O L q) ∧ tkR O L q - q ≤ 7 → t2 = 1) ∧ (¬ (allS O q (tkR O L q) ∧ tkR O L q - q ≤ 7) → (allD O q (tkR O L q) ∧ tkR O L q - q ≤ 2 → t2 = nI 2) ∧ (¬ (allD O q (tkR O L q) ∧ tkR O L q - q ≤ 2) → t2 = 4))) := by
    intro t2 f1 f2 f3
    have e1 : (allS O q (tkR O L q) ∧ tkR O L q - q ≤ 7) ↔ (d = 0 ∧ a ≤ 7) := by
      rw [← i3']
      constructor
      · rintro ⟨x, y⟩; exact ⟨x, by omega⟩
      · rintro ⟨x, y⟩; exact ⟨x, by omega⟩
    have e2 : (allD O q (tkR O L q) ∧ tkR O L q - q ≤ 2) ↔ (a = 0 ∧ d ≤ 2) := by
      rw [← i4']
      constructor
      · rintro ⟨x, y⟩; exact ⟨x, by omega⟩
      · rintro ⟨x, y⟩; exact ⟨x, by omega⟩
    rw [e1, e2]
    exact ⟨fun x => i5 (i3'.mpr x), fun x => i6 (i4'.mpr x), f1, fun x => ⟨f2 x, f3 x⟩⟩
  by_cases c1 : d = 0
  · by_cases c2 : 7 < a
    · rw [if_pos c1, if_pos c2, if_neg (show ¬ a = 0 by omega), if_pos trivial, if_pos trivial]
      exact ⟨_, _, _, rfl, fin 4 (fun x => by omega) (fun _ x => by omega) (fun _ _ => rfl)⟩
    · rw [if_pos c1, if_neg c2]
      refine ⟨nu, na, 1, ?_, fin 1 (fun _ => rfl) (fun x => by omega) (fun x => by omega)⟩
      by_cases c3 : a = 0
      · rw [if_pos c3, if_neg (show ¬ 2 < d by omega), if_neg (by decide)]
      · rw [if_neg c3, if_neg (by decide)]
  · rw [if_neg c1]
    by_cases c3 : a = 0
    · by_cases c4 : 2 < d
      · rw [if_pos c3, if_pos c4, if_pos trivial, if_pos trivial]
        exact ⟨_, _, _, rfl, fin 4 (fun x => by omega) (fun _ x => by omega) (fun _ _ => rfl)⟩
      · rw [if_pos c3, if_neg c4, if_pos trivial, if_neg (by decide)]
        exact ⟨_, _, _, rfl, fin (nI 2) (fun x => by omega) (fun _ _ => rfl) (fun _ x => by omega)⟩
    · rw [if_neg c3, if_pos trivial, if_pos trivial]
      exact ⟨_, _, _, rfl, fin 4 (fun x => by omega) (fun _ x => by omega) (fun _ _ => rfl)⟩
theorem c_skip {O : Nat → Nat} {by_ : Nat → Int32} (h : ∀ k, k < 940 → O k < 256 ∧ by_ k = sbT (O k)) {L S : Nat} (hS : S ≤ 940) (pl nu : Int32) (na : Int64) (to : Int32) : ∀ (n p : Nat), p ≤ 940 → S - p = n → gn_X9_next_1 (nI L) (nI S) by_ (nI p) pl nu na to = gn_X9_next_0 (nI L) (nI S) by_ (nI (whQ (spB O) n p)) pl nu na to
  | 0, p, hp, hn => by
    rw [gq_X9_next_1, if_pos (nI_le (by omega) (by omega))]; rfl
  | n + 1, p, hp, hn => by
    obtain ⟨o1, o2⟩ := h p (by omega)
    obtain ⟨e1, e2, _⟩ := sb_eq _ o1
    have ih := c_skip h (L := L) hS pl nu na to n (p + 1) (by omega) (by omega)
    have ew : whQ (spB O) (n + 1) p = if spB O p = true then whQ (spB O) n (p + 1) else p := rfl
    rw [gq_X9_next_1, if_neg (nI_ge (show p < S by omega) (by omega)), inb_nI (show p < 940 by omega) (by omega), if_pos rfl, nI_clamp (by omega), o2, ew, nI_1, ih, if_pos rfl]
    by_cases c1 : O p = 32
    · rw [if_pos (e1.mpr c1), if_pos (show spB O p = true by unfold spB; rw [c1]; rfl)]
    · by_cases c2 : O p = 10
      · rw [if_neg (fun x => c1 (e1.mp x)), if_pos (e2.mpr c2), if_pos (show spB O p = true by unfold spB; rw [c2]; rfl)]
      · rw [if_neg (fun x => c1 (e1.mp x)), if_neg (fun x => c2 (e2.mp x)), if_neg (show ¬ spB O p = true by unfold spB; simp [c1, c2])]
theorem c_next {O : Nat → Nat} {by_ : Nat → Int32} (h : ∀ k, k < 940 → O k < 256 ∧ by_ k = sbT (O k)) {L M p : Nat} (hL : L ≤ 940) (hp : p ≤ L) (to pl nu : Int32) (na : Int64) : ∃ ps nu' na' to', dn_X9_next (nI L) to pl nu na (nI p) (nI (min L M)) by_ = some (ps, nI (tkA O L M p), nu', na', to') ∧ cTk O L M p ps nu' na' to' := by
  obtain ⟨S, hSd⟩ : ∃ S, S = min L M := ⟨_, rfl⟩
  have hSL : S ≤ L := by omega
  have hst : dn_X9_next (nI L) to pl nu na (nI p) (nI S) by_ = gn_X9_next_0 (nI L) (nI S) by_ (nI (whQ (spB O) (S - p) p)) pl nu na to := by
    rw [← c_skip h (L := L) (S := S) (by omega) pl nu na to (S - p) p (by omega) rfl]
    unfold dn_X9_next
    exact (gq_X9_next_1 (nI L) (nI S) by_ (nI p) pl nu na to).symm
  have hq := tkQ_le O hp
  have hm := whQ_more (spB O) (S - p) (L - p) p (by omega)
  rw [← hSd, hst, gq_X9_next_0]
  by_cases c : tkQ O L p < S
  · have eq : whQ (spB O) (S - p) p = tkQ O L p := by
      rcases hm with hm | ⟨h1, h2⟩
      · exact hm
      · have h3 : whQ (spB O) (L - p) p = tkQ O L p := rfl
        rw [h3] at h2
        omega
    have hA : tkA O L M p = tkQ O L p := by unfold tkA; rw [← hSd, if_pos c]
    have c' : tkQ O L p < min L M := by omega
    obtain ⟨nu', na', t2, r1, r2, r3, r4, r5⟩ := c_read h (q := tkQ O L p) hL (by omega) to
    have hrl := tkR_le O (L := L) (q := tkQ O L p) (by omega)
    rw [eq, if_pos (nI_lt c (by omega)), r1, Option.bind_some, hA]
    simp only [pz_eq (show tkR O L (tkQ O L p) < 2 ^ 31 by omega) (show tkQ O L p < 2 ^ 31 by omega)]
    by_cases d : alB O (tkQ O L p) = true
    · have hr := tkR_lt (show tkQ O L p < L by omega) d
      have hE : tkE O L p = tkR O L (tkQ O L p) := by unfold tkE; rw [if_pos d]
      obtain ⟨k1, k2⟩ := tkK_1 c' d
      rw [if_neg (by omega)]
      refine ⟨_, _, _, _, rfl, ?_⟩
      by_cases w1 : allS O (tkQ O L p) (tkR O L (tkQ O L p)) ∧ tkR O L (tkQ O L p) - tkQ O L p ≤ 7
      · have e := k1 w1
        unfold cTk
        rw [e, hE]
        refine ⟨fun x => by omega, fun _ => ⟨r4 w1, rfl, r2 w1.1⟩, fun x => by omega, fun x => by omega, fun x => by omega⟩
      · obtain ⟨k3, k4⟩ := k2 w1
        obtain ⟨r6, r7⟩ := r5 w1
        by_cases w2 : allD O (tkQ O L p) (tkR O L (tkQ O L p)) ∧ tkR O L (tkQ O L p) - tkQ O L p ≤ 2
        · have e := k3 w2
          unfold cTk
          rw [e, hE]
          refine ⟨fun x => by omega, fun x => by omega, fun _ => ⟨r6 w2, rfl, r3 w2.1⟩, fun x => by omega, fun x => by omega⟩
        · have e := k4 w2
          unfold cTk
          rw [e]
          refine ⟨fun x => by omega, fun x => by omega, fun x => by omega, fun x => by omega, fun _ => Or.inl (r7 w2)⟩
    · have hr := tkR_eq (L := L) d
      have hE : tkE O L p = tkQ O L p + 1 := by unfold tkE; rw [if_neg d]
      have e := tkK_3 c' d
      obtain ⟨o1, o2⟩ := h (tkQ O L p) (by omega)
      obtain ⟨_, _, e3⟩ := sb_eq _ o1
      rw [if_pos hr, hr, inb_nI (show tkQ O L p < 940 by omega) (by omega), if_pos rfl, nI_clamp (by omega), o2, nI_1]
      by_cases w : O (tkQ O L p) = 59
      · rw [if_pos (e3.mpr w)]
        refine ⟨_, _, _, _, rfl, ?_⟩
        rw [if_pos w] at e
        unfold cTk
        rw [e, hE]
        exact ⟨fun x => by omega, fun x => by omega, fun x => by omega, fun _ => ⟨rfl, rfl⟩, fun x => by omega⟩
      · rw [if_neg (fun x => w (e3.mp x))]
        refine ⟨_, _, _, _, rfl, ?_⟩
        rw [if_neg w] at e
        unfold cTk
        rw [e]
        exact ⟨fun x => by omega, fun x => by omega, fun x => by omega, fun x => by omega, fun _ => Or.inl rfl⟩
  · have hge : S ≤ whQ (spB O) (S - p) p := by
      rcases hm with hm | ⟨h1, h2⟩
      · have h3 : whQ (spB O) (L - p) p = tkQ O L p := rfl
        rw [hm, h3]; omega
      · omega
    have hle := (whQ_ge (spB O) (S - p) p).2.1
    have hA : tkA O L M p = S := by unfold tkA; rw [← hSd, if_neg c]
    have e := tkK_no (M := M) (show ¬ tkQ O L p < min L M by omega)
    rw [if_neg (nI_nlt (by omega) (by omega)), hA]
    refine ⟨_, _, _, _, rfl, ?_⟩
    by_cases w : L ≤ M
    · rw [if_pos w] at e
      unfold cTk
      rw [e]
      exact ⟨fun _ => rfl, fun x => by omega, fun x => by omega, fun x => by omega, fun x => by omega⟩
    · rw [if_neg w] at e
      unfold cTk
      rw [e]
      exact ⟨fun x => by omega, fun x => by omega, fun x => by omega, fun x => by omega, fun _ => Or.inr ⟨rfl, by omega⟩⟩
