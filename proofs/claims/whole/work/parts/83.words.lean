/-! ===== pure rows: words and names ===== -/
def okW (w : List Nat) : Prop := w.length ≤ 7 ∧ ∀ c, c ∈ w → 97 ≤ c ∧ c ≤ 122
theorem n_inj : ∀ (w w' : List Nat), (∀ c, c ∈ w → 97 ≤ c ∧ c ≤ 122) → (∀ c, c ∈ w' → 97 ≤ c ∧ c ≤ 122) → (n32 w = n32 w' → w = w') ∧ (n256 w = n256 w' → w = w')
  | [], [], _, _ => ⟨fun _ => rfl, fun _ => rfl⟩
  | [], c :: w', _, h => by
    have := h c (List.mem_cons_self ..)
    refine ⟨fun x => ?_, fun x => ?_⟩
    · have x' : 0 = n32 w' * 32 + (c - 96) := x
      omega
    · have x' : 0 = n256 w' * 256 + c := x
      omega
  | c :: w, [], h, _ => by
    have := h c (List.mem_cons_self ..)
    refine ⟨fun x => ?_, fun x => ?_⟩
    · have x' : n32 w * 32 + (c - 96) = 0 := x
      omega
    · have x' : n256 w * 256 + c = 0 := x
      omega
  | c :: w, d :: w', h, h' => by
    have hc := h c (List.mem_cons_self ..)
    have hd := h' d (List.mem_cons_self ..)
    obtain ⟨a, b⟩ := n_inj w w' (fun x hx => h x (List.mem_cons_of_mem _ hx)) (fun x hx => h' x (List.mem_cons_of_mem _ hx))
    refine ⟨fun x => ?_, fun x => ?_⟩
    · have x' : n32 w * 32 + (c - 96) = n32 w' * 32 + (d - 96) := x
      have e1 : n32 w = n32 w' := by omega
      have e2 : c = d := by omega
      rw [a e1, e2]
    · have x' : n256 w * 256 + c = n256 w' * 256 + d := x
      have e1 : n256 w = n256 w' := by omega
      have e2 : c = d := by omega
      rw [b e1, e2]
theorem n_lt : ∀ (w : List Nat), (∀ c, c ∈ w → 97 ≤ c ∧ c ≤ 122) → n32 w < 32 ^ w.length ∧ n256 w < 256 ^ w.length
  | [], _ => ⟨Nat.one_pos, Nat.one_pos⟩
  | c :: w, h => by
    have hc := h c (List.mem_cons_self ..)
    obtain ⟨a, b⟩ := n_lt w (fun x hx => h x (List.mem_cons_of_mem _ hx))
    have e1 : (c :: w).length = w.length + 1 := rfl
    rw [e1, Nat.pow_succ, Nat.pow_succ]
    show n32 w * 32 + (c - 96) < _ ∧ n256 w * 256 + c < _
    omega
theorem okW_lt {w : List Nat} (h : okW w) : n32 w < 2 ^ 56 ∧ n256 w < 2 ^ 56 := by
  obtain ⟨a, b⟩ := n_lt w h.2
  have h1 : (32 : Nat) ^ w.length ≤ 32 ^ 7 := Nat.pow_le_pow_right (by omega) h.1
  have h2 : (256 : Nat) ^ w.length ≤ 256 ^ 7 := Nat.pow_le_pow_right (by omega) h.1
  omega
theorem lN_inj {a b : Nat} (ha : a < 2 ^ 56) (hb : b < 2 ^ 56) : lN a = lN b ↔ a = b := by
  constructor
  · intro h
    have h2 := congrArg (fun x => Int64.toBitVec x) h
    have h3 : BitVec.ofNat 64 a = BitVec.ofNat 64 b := h2
    have h4 := congrArg BitVec.toNat h3
    rw [BitVec.toNat_ofNat, BitVec.toNat_ofNat] at h4
    omega
  · intro h; rw [h]
theorem w32 {w w' : List Nat} (h : okW w) (h' : okW w') : lN (n32 w) = lN (n32 w') ↔ w = w' := by
  rw [lN_inj (okW_lt h).1 (okW_lt h').1]
  exact ⟨(n_inj w w' h.2 h'.2).1, fun x => by rw [x]⟩
theorem w256 {w w' : List Nat} (h : okW w) (h' : okW w') : lN (n256 w) = lN (n256 w') ↔ w = w' := by
  rw [lN_inj (okW_lt h).2 (okW_lt h').2]
  exact ⟨(n_inj w w' h.2 h'.2).2, fun x => by rw [x]⟩
/-- the same name on both sides -/
def nmR (x y : Int64) : Prop := ∃ w, okW w ∧ x = lN (n32 w) ∧ y = lN (n256 w)
theorem nmR_eq {x y x' y' : Int64} (h : nmR x y) (h' : nmR x' y') : x = x' ↔ y = y' := by
  obtain ⟨w, a, b, c⟩ := h
  obtain ⟨w', a', b', c'⟩ := h'
  rw [b, b', c, c', w32 a a', w256 a a']
def wdF (f : Nat → Nat) : Nat → List Nat
  | 0 => []
  | j + 1 => f j :: wdF f j
theorem wdF_eq {f g : Nat → Nat} : ∀ (n : Nat), wdF f n = wdF g n ↔ ∀ j, j < n → f j = g j
  | 0 => ⟨fun _ j h => by omega, fun _ => rfl⟩
  | n + 1 => by
    show f n :: wdF f n = g n :: wdF g n ↔ _
    rw [List.cons.injEq, wdF_eq n]
    constructor
    · rintro ⟨a, b⟩ j hj
      by_cases c : j = n
      · rw [c]; exact a
      · exact b j (by omega)
    · intro h; exact ⟨h n (by omega), fun j hj => h j (by omega)⟩
theorem wdF_len (f : Nat → Nat) : ∀ n, (wdF f n).length = n
  | 0 => rfl
  | n + 1 => by
    show (wdF f n).length + 1 = n + 1
    rw [wdF_len f n]
theorem wdF_mem {f : Nat → Nat} : ∀ {n c : Nat}, c ∈ wdF f n → ∃ j, j < n ∧ c = f j
  | 0, c, h => by cases h
  | n + 1, c, h => by
    have h' : c ∈ f n :: wdF f n := h
    rcases List.mem_cons.mp h' with e | e
    · exact ⟨n, by omega, e⟩
    · obtain ⟨j, a, b⟩ := wdF_mem e
      exact ⟨j, by omega, b⟩
theorem wdK_F (O : Nat → Nat) (q : Nat) : ∀ n, wdK O q n = wdF (fun j => O (q + j)) n
  | 0 => rfl
  | n + 1 => by
    show O (q + n) :: wdK O q n = O (q + n) :: wdF (fun j => O (q + j)) n
    rw [wdK_F O q n]
def fwL : List (List Nat) := [[112, 101, 114, 115, 111, 110], [108, 105, 109, 105, 116], [100, 101, 97, 108], [101, 105, 116, 104, 101, 114], [108, 97, 119], [108, 105, 102, 101], [121, 101, 97, 114, 115], [112, 97, 114, 116], [108, 101, 110, 100, 115], [98, 111, 114, 114, 111, 119, 115], [116, 117, 114, 110, 101, 100]]
def fwF (i j : Nat) : Nat := (fwL.getD i []).getD j 0
def rvW (i : Nat) : List Nat := wdF (fwF i) (lenJS.getD i 0)
set_option maxRecDepth 100000 in
theorem rv_tab : ∀ i, i < 11 → lenJS.getD i 0 ≤ 7 ∧ ∀ j, j < 7 → j < lenJS.getD i 0 → 97 ≤ fwF i j ∧ fwF i j ≤ 122 ∧ (bytJS.getD i []).getD j 0 = nI (fwF i j) := by decide +kernel
theorem rv_ok {i : Nat} (hi : i < 11) : okW (rvW i) := by
  obtain ⟨a, b⟩ := rv_tab i hi
  refine ⟨by unfold rvW; rw [wdF_len]; exact a, fun c hc => ?_⟩
  obtain ⟨j, j1, j2⟩ := wdF_mem hc
  have := b j (by omega) j1
  rw [j2]
  omega
theorem sb_c : ∀ c, c < 128 → sbT c = nI c := by decide +kernel
theorem sb_is {o c : Nat} (ho : o < 256) (hc : c < 128) : (sbT o = nI c) = (o = c) := by
  apply propext
  constructor
  · intro h
    have h1 := sb_and o ho
    rw [h, ← sb_c c hc, sb_and c (by omega)] at h1
    exact ((nI_eq (by omega) (by omega)).mp h1).symm
  · intro h; rw [h]; exact sb_c c hc
theorem tkW_ok {O : Nat → Nat} {L M p : Nat} (h : tkK O L M p = 1) : okW (tkW O L p) ∧ tkA O L M p = tkQ O L p ∧ tkE O L p = tkQ O L p + (tkW O L p).length ∧ tkQ O L p < min L M := by
  by_cases c : tkQ O L p < min L M
  · by_cases d : alB O (tkQ O L p) = true
    · obtain ⟨k1, k2⟩ := tkK_1 c d
      have hrl := tkR_le O (L := L) (q := tkQ O L p) (by omega)
      by_cases w1 : allS O (tkQ O L p) (tkR O L (tkQ O L p)) ∧ tkR O L (tkQ O L p) - tkQ O L p ≤ 7
      · have hl : (tkW O L p).length = tkR O L (tkQ O L p) - tkQ O L p := by unfold tkW; rw [wdK_F, wdF_len]
        refine ⟨⟨by rw [hl]; exact w1.2, fun x hx => ?_⟩, by unfold tkA; rw [if_pos c], by rw [hl]; unfold tkE; rw [if_pos d]; omega, c⟩
        unfold tkW at hx
        rw [wdK_F] at hx
        obtain ⟨j, j1, j2⟩ := wdF_mem hx
        have := w1.1 (tkQ O L p + j) (by omega) (by omega)
        unfold smB at this
        simp only [Bool.and_eq_true, decide_eq_true_eq] at this
        rw [j2]; exact this
      · obtain ⟨k3, k4⟩ := k2 w1
        by_cases w2 : allD O (tkQ O L p) (tkR O L (tkQ O L p)) ∧ tkR O L (tkQ O L p) - tkQ O L p ≤ 2
        · have := k3 w2; omega
        · have := k4 w2; omega
    · have := tkK_3 c d
      split at this <;> omega
  · have := tkK_no c
    split at this <;> omega
noncomputable def isW (O : Nat → Nat) (L M p i : Nat) : Bool := (tkK O L M p == 1) && (tkW O L p == rvW i)
def nnB (w : List Nat) : Nat → Bool
  | 0 => true
  | k + 1 => nnB w k && !(w == rvW k)
noncomputable def isN (O : Nat → Nat) (L M p : Nat) : Bool := (tkK O L M p == 1) && nnB (tkW O L p) 11
theorem cTk_no {O : Nat → Nat} {L M p : Nat} {ps nu : Int32} {na : Int64} {to : Int32} (hk : tkK O L M p ≤ 4) (h : cTk O L M p ps nu na to) (c : tkK O L M p ≠ 1) : to ≠ 1 := by
  obtain ⟨a, b, d, e, f⟩ := h
  have : tkK O L M p = 0 ∨ tkK O L M p = 2 ∨ tkK O L M p = 3 ∨ tkK O L M p = 4 := by omega
  rcases this with x | x | x | x
  · rw [a x]; decide
  · rw [(d x).1]; decide
  · rw [(e x).1]; decide
  · rcases f x with y | y
    · rw [y]; decide
    · rw [y.1]; decide
theorem tkK_le (O : Nat → Nat) (L M p : Nat) : tkK O L M p ≤ 4 := by
  by_cases c : tkQ O L p < min L M
  · by_cases d : alB O (tkQ O L p) = true
    · obtain ⟨k1, k2⟩ := tkK_1 c d
      by_cases w1 : allS O (tkQ O L p) (tkR O L (tkQ O L p)) ∧ tkR O L (tkQ O L p) - tkQ O L p ≤ 7
      · have := k1 w1; omega
      · obtain ⟨k3, k4⟩ := k2 w1
        by_cases w2 : allD O (tkQ O L p) (tkR O L (tkQ O L p)) ∧ tkR O L (tkQ O L p) - tkQ O L p ≤ 2
        · have := k3 w2; omega
        · have := k4 w2; omega
    · have := tkK_3 c d
      split at this <;> omega
  · have := tkK_no c
    split at this <;> omega
theorem c_isWord {O : Nat → Nat} {by_ : Nat → Int32} (h : ∀ k, k < 940 → O k < 256 ∧ by_ k = sbT (O k)) {L M p : Nat} (hL : L ≤ 940) {ps nu : Int32} {na : Int64} {to : Int32} (hc : cTk O L M p ps nu na to) {i : Nat} (hi : i < 11) : dn_X9_isWord to (nI (tkA O L M p)) ps by_ i = some (isW O L M p i) := by
  unfold dn_X9_isWord
  by_cases c : tkK O L M p = 1
  · obtain ⟨t1, t2, t3⟩ := hc.2.1 c
    obtain ⟨w1, w2, w3, w4⟩ := tkW_ok c
    obtain ⟨r1, r2⟩ := rv_tab i hi
    have hrl := tkR_le O (L := L) (q := tkQ O L p) (by omega)
    have hE : tkE O L p ≤ L := by
      unfold tkE
      split <;> omega
    have hB : isW O L M p i = (tkW O L p == rvW i) := by unfold isW; rw [c]; rfl
    rw [if_pos t1, t2, w2, w3, pz_s (by omega), hB]
    have hl2 := w1.1
    simp only [show tkQ O L p + (tkW O L p).length - tkQ O L p = (tkW O L p).length from by omega, pz_eq (show (tkW O L p).length < 2 ^ 31 by omega) (show lenJS.getD i 0 < 2 ^ 31 by omega)]
    by_cases e : (tkW O L p).length = lenJS.getD i 0
    · rw [if_pos e]
      have hW : tkW O L p = wdF (fun j => O (tkQ O L p + j)) (lenJS.getD i 0) := by
        have : (tkW O L p).length = tkR O L (tkQ O L p) - tkQ O L p := by unfold tkW; rw [wdK_F, wdF_len]
        rw [← e, this]
        unfold tkW
        rw [wdK_F]
      have key : ∀ m j, j + m = lenJS.getD i 0 → (∀ k, k < j → O (tkQ O L p + k) = fwF i k) → gn_X9_isWord_0 (nI (tkQ O L p)) by_ i (nI j) = some (tkW O L p == rvW i) := by
        intro m
        induction m with
        | zero =>
          intro j hj hall
          have : tkW O L p = rvW i := by
            rw [hW]
            exact (wdF_eq _).mpr (fun k hk => hall k (by omega))
          rw [gq_X9_isWord_0, if_pos (nI_le (by omega) (by omega)), this, beq_self_eq_true]
        | succ m ih =>
          intro j hj hall
          have ho := h (tkQ O L p + j) (by omega)
          obtain ⟨f1, f2, f3⟩ := r2 j (by omega) (by omega)
          rw [gq_X9_isWord_0, if_neg (nI_ge (show j < lenJS.getD i 0 by omega) (by omega)), nI_add, if_neg (show ¬ (940 : Int32) ≤ nI (tkQ O L p + j) from nI_ge (b := 940) (by omega) (by omega)), inb_nI (show tkQ O L p + j < 940 by omega) (by omega), if_pos rfl, inb_nI (show j < lenJS.getD i 0 by omega) (by omega), if_pos rfl, nI_clamp (by omega), nI_clamp (by omega), ho.2, f3, nI_1]
          simp only [sb_is ho.1 (show fwF i j < 128 by omega)]
          by_cases x : O (tkQ O L p + j) = fwF i j
          · rw [if_pos x]
            refine ih (j + 1) (by omega) (fun k hk => ?_)
            by_cases y : k = j
            · rw [y]; exact x
            · exact hall k (by omega)
          · rw [if_neg x]
            have : ¬ tkW O L p = rvW i := by
              rw [hW]
              intro z
              exact x ((wdF_eq _).mp z j (by omega))
            congr 1
            exact (beq_eq_false_iff_ne.mpr this).symm
      exact key (lenJS.getD i 0) 0 (by omega) (fun k hk => by omega)
    · rw [if_neg e]
      have : ¬ tkW O L p = rvW i := by
        intro z
        apply e
        rw [z]
        exact wdF_len _ _
      congr 1
      exact (beq_eq_false_iff_ne.mpr this).symm
  · rw [if_neg (cTk_no (tkK_le O L M p) hc c)]
    unfold isW
    congr 1
    rw [beq_eq_false_iff_ne.mpr c]; rfl
theorem m_isWord {O : Nat → Nat} {L M p : Nat} {mp mat mto : Int32} {mwo : Int64} {mnu : Int32} (hm : mTk O L M p mp mat mto mwo mnu) {i : Nat} (hi : i < 11) {x : Int64} (hx : x = lN (n256 (rvW i))) : dn_X12_isWord mto mwo x = some (isW O L M p i) := by
  unfold dn_X12_isWord
  have hk := tkK_le O L M p
  rw [hm.2.1]
  simp only [pz_e1 (show tkK O L M p < 2 ^ 31 by omega)]
  by_cases c : tkK O L M p = 1
  · have hB : isW O L M p i = (tkW O L p == rvW i) := by unfold isW; rw [c]; rfl
    rw [if_pos c, hB, (hm.2.2.1 c).2, hx]
    by_cases e : tkW O L p = rvW i
    · rw [if_pos (by rw [e]), e, beq_self_eq_true]
    · rw [if_neg (fun z => e ((w256 (tkW_ok c).1 (rv_ok hi)).mp z)), beq_eq_false_iff_ne.mpr e]
  · rw [if_neg c]
    unfold isW
    rw [beq_eq_false_iff_ne.mpr c]; rfl
