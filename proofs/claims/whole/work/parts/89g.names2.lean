/-! ===== pure rows: the same of the whole line ===== -/
theorem line0_nm (x1 x2 : Int32) (rs : Nat → Int64) (ta : Nat → Int32) {hh : Nat → Int32} (mn : Nat → Int64) {n : Nat} (hn : hh 0 = nI n) (hn2 : n ≤ 10) (f fa hl at_ sp to nu got lim : Int32) (p : Int32) (w : Int64) : ∀ (m k : Nat) (v1 : Int32), k + m = n → nmQ (fun q => q.2.2.2.2.2.2.2.2.2.2.2.2.1) mn (gn_X12_line_0 x1 x2 rs ta v1 (nI k) f fa hl p at_ sp to w nu got hh mn lim)
  | 0, k, v1, hk => by
    have hle : hh (0 : Int32).toNatClampNeg ≤ nI k := by
      rw [show (0 : Int32).toNatClampNeg = 0 from rfl, hn]; exact nI_le (by omega) (by omega)
    rw [gq_X12_line_0, if_pos hle]
    refine nmQ_bind fun y1 _ => nmQ_if (fun _ => nmQ_bind fun y2 _ => nmQ_if (fun _ => ?_) (fun _ => nmQ_bind fun y3 _ => nmQ_if (fun _ => ?_) (fun _ => nmQ_bind fun y4 _ => nmQ_some fun k hk => rfl))) (fun _ => nmQ_some fun k hk => rfl)
    · rw [gq_X12_line_1]
      exact nmQ_bind fun y2 _ => nmQ_if (fun _ => nmQ_if (fun _ => nmQ_bind fun y2 _ => nmQ_some fun k hk => rfl) (fun _ => nmQ_none)) (fun _ => nmQ_if (fun _ => nmQ_bind fun y2 _ => nmQ_some fun k hk => rfl) (fun _ => nmQ_none))
    · rw [gq_X12_line_1]
      exact nmQ_bind fun y2 _ => nmQ_if (fun _ => nmQ_if (fun _ => nmQ_bind fun y2 _ => nmQ_some fun k hk => rfl) (fun _ => nmQ_none)) (fun _ => nmQ_if (fun _ => nmQ_bind fun y2 _ => nmQ_some fun k hk => rfl) (fun _ => nmQ_none))
  | m + 1, k, v1, hk => by
    have hle : ¬ hh (0 : Int32).toNatClampNeg ≤ nI k := by
      rw [show (0 : Int32).toNatClampNeg = 0 from rfl, hn]; exact nI_ge (a := k) (b := n) (by omega) (by omega)
    have ih := fun v1 => line0_nm x1 x2 rs ta mn hn hn2 f fa hl at_ sp to nu got lim p w m (k + 1) v1 (by omega)
    rw [gq_X12_line_0, if_neg hle, nI_1]
    exact nmQ_if (fun _ => nmQ_if (fun _ => ih _) (fun _ => ih _)) (fun _ => nmQ_none)
theorem line_nm (a b c d e f g h i : Int32) (w : Int64) (j lim hl : Int32) {hh : Nat → Int32} (mn rs : Nat → Int64) (ta : Nat → Int32) {n m : Nat} (hn : hh 0 = nI n) (hn2 : n ≤ 10) (hm : hh 1 = nI m) (hm2 : m ≤ 30) : nmQ (fun q => q.2.2.2.2.2.2.2.2.2.2.2.2.1) mn (dn_X12_line a b c d e f g h i w j lim hl hh mn rs ta) := by
  unfold dn_X12_line
  refine nmQ_bind fun y1 _ => nmQ_if (fun _ => ?_) (fun _ => nmQ_bind fun y2 _ => nmQ_if (fun _ => nmQ_bind fun y3 _ => nmQ_if (fun _ => nmQ_bind fun y4 _ => nmQ_if (fun _ => nmQ_if (fun _ => nmQ_some fun k hk => rfl) (fun _ => nmQ_none)) (fun _ => nmQ_some fun k hk => rfl)) (fun _ => nmQ_some fun k hk => rfl)) (fun _ => nmQ_bind fun y5 _ => nmQ_if (fun _ => nmQ_bind fun y6 h6 => nmQ_some fun k hk => ?_) (fun _ => nmQ_bind fun y7 _ => nmQ_if (fun _ => nmQ_bind fun y8 _ => nmQ_some fun k hk => rfl) (fun _ => nmQ_bind fun y9 _ => nmQ_if (fun _ => line0_nm _ _ _ _ _ hn hn2 _ _ _ _ _ _ _ _ _ _ _ n 0 0 (by omega)) (fun _ => nmQ_bind fun y10 _ => nmQ_some fun k hk => rfl)))))
  · rw [show (0 : Int32).toNatClampNeg = 0 from rfl, hn]
    refine nmQ_if (fun _ => nmQ_bind fun y1 _ => nmQ_some fun k hk => rfl) (fun c0 => nmQ_bind fun y2 _ => nmQ_bind fun y3 h3 => ?_)
    have hne : n ≠ 10 := fun x => c0 (by rw [x]; rfl)
    have hmn : ∀ k, k < 40 → y3.2.2.2.1 k = mn k := by
      rw [show (40 : Int32) = nI 40 from rfl, nI_add] at h3
      exact fresh_nm _ _ _ _ _ _ _ _ _ _ _ _ _ _ (by omega) (by omega) y3 h3
    exact nmQ_if (fun _ => nmQ_bind fun y4 _ => nmQ_if (fun _ => nmQ_if (fun _ => nmQ_bind fun y5 _ => nmQ_if (fun _ => nmQ_if (fun _ => nmQ_if (fun _ => nmQ_some hmn) (fun _ => nmQ_none)) (fun _ => nmQ_none)) (fun _ => nmQ_some hmn)) (fun _ => nmQ_none)) (fun _ => nmQ_some hmn)) (fun _ => nmQ_some hmn)
  · exact deal_nm _ _ _ _ _ _ _ _ _ _ _ mn rs ta hm hm2 y6 h6 k hk
