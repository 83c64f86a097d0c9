/-! ===== pure rows: a line leaves the names of the TOWN kept as they are ===== -/
def nmQ {α : Type} (g : α → Nat → Int64) (mn : Nat → Int64) (x : Option α) : Prop := ∀ q, x = some q → ∀ k, k < 40 → g q k = mn k
theorem nmQ_bind {α β : Type} {g : α → Nat → Int64} {mn : Nat → Int64} {a : Option β} {f : β → Option α} (h : ∀ y, a = some y → nmQ g mn (f y)) : nmQ g mn (Option.bind a f) := by
  intro q hq
  cases ha : a with
  | none => rw [ha] at hq; cases hq
  | some y => rw [ha] at hq; exact h y ha q hq
theorem nmQ_some {α : Type} {g : α → Nat → Int64} {mn : Nat → Int64} {q : α} (h : ∀ k, k < 40 → g q k = mn k) : nmQ g mn (some q) := by
  intro q' hq
  cases hq
  exact h
theorem nmQ_none {α : Type} {g : α → Nat → Int64} {mn : Nat → Int64} : nmQ g mn (none : Option α) := by
  intro q hq
  cases hq
theorem nmQ_if {α : Type} {g : α → Nat → Int64} {mn : Nat → Int64} {c : Prop} [Decidable c] {x y : Option α} (h1 : c → nmQ g mn x) (h2 : ¬ c → nmQ g mn y) : nmQ g mn (if c then x else y) := by
  by_cases h : c
  · rw [if_pos h]; exact h1 h
  · rw [if_neg h]; exact h2 h
theorem fresh_nm (a b c d e f g h i : Int32) (w : Int64) (hh : Nat → Int32) (mn rs : Nat → Int64) (ta : Nat → Int32) {to : Nat} (hto : 40 ≤ to) (hto2 : to < 80) : nmQ (fun q => q.2.2.2.1) mn (dn_X12_fresh a b c d e f g h i w hh mn rs ta (nI to)) := by
  unfold dn_X12_fresh
  refine nmQ_bind fun y1 _ => nmQ_if (fun _ => nmQ_bind fun y2 _ => nmQ_if (fun _ => nmQ_bind fun y3 _ => nmQ_some fun k hk => rfl) (fun _ => nmQ_bind fun y4 _ => nmQ_if (fun _ => nmQ_if (fun _ => nmQ_bind fun y5 _ => nmQ_some fun k hk => ?_) (fun _ => nmQ_none)) (fun _ => nmQ_bind fun y6 _ => nmQ_some fun k hk => rfl))) (fun _ => nmQ_bind fun y7 _ => nmQ_some fun k hk => rfl)
  show vp_updL mn (nI to).toNatClampNeg w k = mn k
  rw [nI_clamp (by omega), pk_uLn (by omega)]
theorem deal1_nm (x1 x2 : Int32) (x3 : Nat → Int32) (x4 x5 x6 x7 x8 x9 x10 x11 x12 : Int32) (x13 : Int64) (x14 x15 x16 : Int32) (mn : Nat → Int64) (x18 : Int32) (x19 : Nat → Int32) : nmQ (fun q => q.2.2.2.2.2.2.2.2.2.1) mn (gn_X12_readDeal_1 x1 x2 x3 x4 x5 x6 x7 x8 x9 x10 x11 x12 x13 x14 x15 x16 mn x18 x19) := by
  rw [gq_X12_readDeal_1]
  refine nmQ_if (fun _ => nmQ_if (fun _ => nmQ_bind fun y1 _ => nmQ_if (fun _ => nmQ_if (fun _ => nmQ_bind fun y2 _ => nmQ_if (fun _ => nmQ_if (fun _ => nmQ_bind fun y3 _ => nmQ_if (fun _ => nmQ_if (fun _ => nmQ_if (fun _ => nmQ_bind fun y4 _ => nmQ_if (fun _ => nmQ_if (fun _ => nmQ_bind fun y5 _ => ?_) (fun _ => nmQ_none)) (fun _ => ?_)) (fun _ => nmQ_none)) (fun _ => nmQ_none)) (fun _ => nmQ_some fun k hk => rfl)) (fun _ => nmQ_none)) (fun _ => nmQ_some fun k hk => rfl)) (fun _ => nmQ_none)) (fun _ => nmQ_some fun k hk => rfl)) (fun _ => nmQ_none)) (fun _ => nmQ_none)
  · rw [gq_X12_readDeal_2]; exact nmQ_some fun k hk => rfl
  · rw [gq_X12_readDeal_2]; exact nmQ_some fun k hk => rfl
theorem deal0_nm (x1 x2 : Int32) (x3 : Nat → Int32) (x4 x5 x6 x7 x9 x10 x11 x12 : Int32) (x13 : Int64) (x14 x15 x16 : Int32) (mn : Nat → Int64) (x18 : Int32) (x19 : Nat → Int32) : nmQ (fun q => q.2.2.2.2.2.2.2.2.2.1) mn (gn_X12_readDeal_0 x1 x2 x3 x4 x5 x6 x7 x9 x10 x11 x12 x13 x14 x15 x16 mn x18 x19) := by
  rw [gq_X12_readDeal_0]
  exact nmQ_if (fun _ => nmQ_if (fun _ => nmQ_if (fun _ => nmQ_if (fun _ => deal1_nm _ _ _ _ _ _ _ _ _ _ _ _ _ _ _ _ _ _ _) (fun _ => nmQ_none)) (fun _ => nmQ_if (fun _ => deal1_nm _ _ _ _ _ _ _ _ _ _ _ _ _ _ _ _ _ _ _) (fun _ => nmQ_none))) (fun _ => nmQ_none)) (fun _ => nmQ_none)
theorem nmQ_tr {α : Type} {g : α → Nat → Int64} {mn mn' : Nat → Int64} {x : Option α} (h : nmQ g mn' x) (h2 : ∀ k, k < 40 → mn' k = mn k) : nmQ g mn x := fun q hq k hk => (h q hq k hk).trans (h2 k hk)
theorem deal_nm (a b c d e f g h i : Int32) (w : Int64) (j : Int32) {hh : Nat → Int32} (mn rs : Nat → Int64) (ta : Nat → Int32) {n : Nat} (hn : hh 1 = nI n) (hn2 : n ≤ 30) : nmQ (fun q => q.2.2.2.2.2.2.2.2.2.1) mn (dn_X12_readDeal a b c d e f g h i w j hh mn rs ta) := by
  unfold dn_X12_readDeal
  rw [show (1 : Int32).toNatClampNeg = 1 from rfl, hn]
  refine nmQ_if (fun _ => nmQ_bind fun y1 _ => nmQ_some fun k hk => rfl) (fun c0 => nmQ_bind fun y2 _ => nmQ_bind fun y3 h3 => ?_)
  have hne : n ≠ 30 := fun x => c0 (by rw [x]; rfl)
  have hm : ∀ k, k < 40 → y3.2.2.2.1 k = mn k := by
    rw [show (50 : Int32) = nI 50 from rfl, nI_add] at h3
    exact fresh_nm _ _ _ _ _ _ _ _ _ _ _ _ _ _ (by omega) (by omega) y3 h3
  exact nmQ_if (fun _ => nmQ_bind fun y4 _ => nmQ_if (fun _ => nmQ_bind fun y5 _ => nmQ_if (fun _ => nmQ_if (fun _ => nmQ_if (fun _ => nmQ_if (fun _ => nmQ_if (fun _ => nmQ_tr (deal0_nm _ _ _ _ _ _ _ _ _ _ _ _ _ _ _ _ _ _) hm) (fun _ => nmQ_none)) (fun _ => nmQ_if (fun _ => nmQ_tr (deal0_nm _ _ _ _ _ _ _ _ _ _ _ _ _ _ _ _ _ _) hm) (fun _ => nmQ_none))) (fun _ => nmQ_none)) (fun _ => nmQ_none)) (fun _ => nmQ_some hm)) (fun _ => nmQ_some hm)) (fun _ => nmQ_some hm)
