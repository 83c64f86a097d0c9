noncomputable def bd_X2_gather_0 (p1_borrower : Nat → Int32) (p1_borrowerGain : Nat → Int32) (p1_byYear : Nat → Int32) (p1_either : Nat → Int32) (p1_lender : Nat → Int32) (p1_lenderGain : Nat → Int32) (p2 : Int32) (p4 : Int32) (v5 : Int32) (t_going : Int32) (t_wanted : Nat → Int32) (t_lends : Nat → Int32) (t_borrows : Nat → Int32) (t_worth : Nat → Int32) : Option (((Int32 × Int32 × (Nat → Int32) × (Nat → Int32) × (Nat → Int32) × (Nat → Int32)) ⊕ ((Int32 × Int32 × Int32 × Int32 × (Nat → Int32) × (Nat → Int32) × (Nat → Int32) × (Nat → Int32)) ⊕ ((Int32 × Int32 × Int32 × Int32 × Int32 × Int32 × (Nat → Int32) × (Nat → Int32) × (Nat → Int32) × (Nat → Int32)) ⊕ ((Int32 × Int32 × Int32 × Int32 × Int32 × (Nat → Int32) × (Nat → Int32) × (Nat → Int32) × (Nat → Int32)))))) ⊕ (Int32 × (Nat → Int32) × (Nat → Int32) × (Nat → Int32) × (Nat → Int32))) :=
  if p4 ≤ v5 then
    some (.inr (t_going, t_wanted, t_lends, t_borrows, t_worth))
  else
    if inb v5 30 = true then
    Option.bind (dn_X10_goesBy p1_borrower p1_either p1_lender (p1_byYear (v5).toNatClampNeg) p2) fun q4 =>
    if q4 = true then
      if inb (p1_byYear (v5).toNatClampNeg) 30 = true then
      if ((p2 >>> ((p1_lender ((p1_byYear (v5).toNatClampNeg)).toNatClampNeg) &&& 31)) &&& 1) = 1 then
        some (.inl (.inr (.inl (v5, p1_byYear (v5).toNatClampNeg, 1, t_going, t_wanted, t_lends, t_borrows, t_worth))))
      else
        some (.inl (.inr (.inl (v5, p1_byYear (v5).toNatClampNeg, 0, t_going, t_wanted, t_lends, t_borrows, t_worth))))
      else none
    else
      some (.inl (.inl (v5 + 1, t_going, t_wanted, t_lends, t_borrows, t_worth)))
    else none
noncomputable def bd_X2_gather_1 (p1_borrower : Nat → Int32) (p1_borrowerGain : Nat → Int32) (p1_byYear : Nat → Int32) (p1_either : Nat → Int32) (p1_lender : Nat → Int32) (p1_lenderGain : Nat → Int32) (p2 : Int32) (p4 : Int32) (v5 : Int32) (v6 : Int32) (k0 : Int32) (t_going : Int32) (t_wanted : Nat → Int32) (t_lends : Nat → Int32) (t_borrows : Nat → Int32) (t_worth : Nat → Int32) : Option (((Int32 × Int32 × (Nat → Int32) × (Nat → Int32) × (Nat → Int32) × (Nat → Int32)) ⊕ ((Int32 × Int32 × Int32 × Int32 × (Nat → Int32) × (Nat → Int32) × (Nat → Int32) × (Nat → Int32)) ⊕ ((Int32 × Int32 × Int32 × Int32 × Int32 × Int32 × (Nat → Int32) × (Nat → Int32) × (Nat → Int32) × (Nat → Int32)) ⊕ ((Int32 × Int32 × Int32 × Int32 × Int32 × (Nat → Int32) × (Nat → Int32) × (Nat → Int32) × (Nat → Int32)))))) ⊕ (Int32 × (Nat → Int32) × (Nat → Int32) × (Nat → Int32) × (Nat → Int32))) :=
  if k0 = 0 then
    if inb v6 30 = true then
    some (.inl (.inr (.inr (.inl (v5, v6, k0, t_going, p1_borrower (v6).toNatClampNeg, t_going, t_wanted, t_lends, t_borrows, t_worth)))))
    else none
  else
    if inb v6 30 = true then
    some (.inl (.inr (.inr (.inl (v5, v6, k0, t_going, p1_lender (v6).toNatClampNeg, t_going, t_wanted, t_lends, t_borrows, t_worth)))))
    else none
noncomputable def bd_X2_gather_2 (p1_borrower : Nat → Int32) (p1_borrowerGain : Nat → Int32) (p1_byYear : Nat → Int32) (p1_either : Nat → Int32) (p1_lender : Nat → Int32) (p1_lenderGain : Nat → Int32) (p2 : Int32) (p4 : Int32) (v5 : Int32) (v6 : Int32) (v7 : Int32) (k1 : Int32) (k2 : Int32) (t_going : Int32) (t_wanted : Nat → Int32) (t_lends : Nat → Int32) (t_borrows : Nat → Int32) (t_worth : Nat → Int32) : Option (((Int32 × Int32 × (Nat → Int32) × (Nat → Int32) × (Nat → Int32) × (Nat → Int32)) ⊕ ((Int32 × Int32 × Int32 × Int32 × (Nat → Int32) × (Nat → Int32) × (Nat → Int32) × (Nat → Int32)) ⊕ ((Int32 × Int32 × Int32 × Int32 × Int32 × Int32 × (Nat → Int32) × (Nat → Int32) × (Nat → Int32) × (Nat → Int32)) ⊕ ((Int32 × Int32 × Int32 × Int32 × Int32 × (Nat → Int32) × (Nat → Int32) × (Nat → Int32) × (Nat → Int32)))))) ⊕ (Int32 × (Nat → Int32) × (Nat → Int32) × (Nat → Int32) × (Nat → Int32))) :=
  if inb k1 30 = true then
  if v7 = 0 then
    if inb v6 30 = true then
    some (.inl (.inr (.inr (.inr ((v5, v6, t_going, p1_lender (v6).toNatClampNeg, t_going, t_wanted, upd t_lends (k1).toNatClampNeg k2, t_borrows, t_worth))))))
    else none
  else
    if inb v6 30 = true then
    some (.inl (.inr (.inr (.inr ((v5, v6, t_going, p1_borrower (v6).toNatClampNeg, t_going, t_wanted, upd t_lends (k1).toNatClampNeg k2, t_borrows, t_worth))))))
    else none
  else none
noncomputable def bd_X2_gather_3 (p1_borrower : Nat → Int32) (p1_borrowerGain : Nat → Int32) (p1_byYear : Nat → Int32) (p1_either : Nat → Int32) (p1_lender : Nat → Int32) (p1_lenderGain : Nat → Int32) (p2 : Int32) (p4 : Int32) (v5 : Int32) (v6 : Int32) (k1 : Int32) (k2 : Int32) (t_going : Int32) (t_wanted : Nat → Int32) (t_lends : Nat → Int32) (t_borrows : Nat → Int32) (t_worth : Nat → Int32) : Option (((Int32 × Int32 × (Nat → Int32) × (Nat → Int32) × (Nat → Int32) × (Nat → Int32)) ⊕ ((Int32 × Int32 × Int32 × Int32 × (Nat → Int32) × (Nat → Int32) × (Nat → Int32) × (Nat → Int32)) ⊕ ((Int32 × Int32 × Int32 × Int32 × Int32 × Int32 × (Nat → Int32) × (Nat → Int32) × (Nat → Int32) × (Nat → Int32)) ⊕ ((Int32 × Int32 × Int32 × Int32 × Int32 × (Nat → Int32) × (Nat → Int32) × (Nat → Int32) × (Nat → Int32)))))) ⊕ (Int32 × (Nat → Int32) × (Nat → Int32) × (Nat → Int32) × (Nat → Int32))) :=
  if inb k1 30 = true then
  Option.bind (dn_X10_bothShares p1_borrowerGain p1_lenderGain v6) fun q16 =>
  if inb t_going 30 = true then
  if inb v6 30 = true then
  if inb (p1_lender (v6).toNatClampNeg) 10 = true then
  if inb (p1_lender (v6).toNatClampNeg) 10 = true then
  if inb v6 30 = true then
  if inb (p1_borrower (v6).toNatClampNeg) 10 = true then
  if inb (p1_borrower (v6).toNatClampNeg) 10 = true then
  some (.inl (.inl (v5 + 1, t_going + 1, upd (upd t_wanted (p1_lender (v6).toNatClampNeg).toNatClampNeg ((t_wanted ((p1_lender (v6).toNatClampNeg)).toNatClampNeg) + 1)) (p1_borrower (v6).toNatClampNeg).toNatClampNeg (((upd t_wanted (p1_lender (v6).toNatClampNeg).toNatClampNeg ((t_wanted ((p1_lender (v6).toNatClampNeg)).toNatClampNeg) + 1)) ((p1_borrower (v6).toNatClampNeg)).toNatClampNeg) + 1), t_lends, upd t_borrows (k1).toNatClampNeg k2, upd t_worth (t_going).toNatClampNeg q16)))
  else none
  else none
  else none
  else none
  else none
  else none
  else none
  else none
noncomputable def st_X2_gather (p1_borrower : Nat → Int32) (p1_borrowerGain : Nat → Int32) (p1_byYear : Nat → Int32) (p1_either : Nat → Int32) (p1_lender : Nat → Int32) (p1_lenderGain : Nat → Int32) (p2 : Int32) (p4 : Int32) : ((Int32 × Int32 × (Nat → Int32) × (Nat → Int32) × (Nat → Int32) × (Nat → Int32)) ⊕ ((Int32 × Int32 × Int32 × Int32 × (Nat → Int32) × (Nat → Int32) × (Nat → Int32) × (Nat → Int32)) ⊕ ((Int32 × Int32 × Int32 × Int32 × Int32 × Int32 × (Nat → Int32) × (Nat → Int32) × (Nat → Int32) × (Nat → Int32)) ⊕ ((Int32 × Int32 × Int32 × Int32 × Int32 × (Nat → Int32) × (Nat → Int32) × (Nat → Int32) × (Nat → Int32)))))) → Option (((Int32 × Int32 × (Nat → Int32) × (Nat → Int32) × (Nat → Int32) × (Nat → Int32)) ⊕ ((Int32 × Int32 × Int32 × Int32 × (Nat → Int32) × (Nat → Int32) × (Nat → Int32) × (Nat → Int32)) ⊕ ((Int32 × Int32 × Int32 × Int32 × Int32 × Int32 × (Nat → Int32) × (Nat → Int32) × (Nat → Int32) × (Nat → Int32)) ⊕ ((Int32 × Int32 × Int32 × Int32 × Int32 × (Nat → Int32) × (Nat → Int32) × (Nat → Int32) × (Nat → Int32)))))) ⊕ (Int32 × (Nat → Int32) × (Nat → Int32) × (Nat → Int32) × (Nat → Int32))) := fun s => match s with
  | .inl (v5, t_going, t_wanted, t_lends, t_borrows, t_worth) => bd_X2_gather_0 p1_borrower p1_borrowerGain p1_byYear p1_either p1_lender p1_lenderGain p2 p4 v5 t_going t_wanted t_lends t_borrows t_worth
  | .inr (.inl (v5, v6, k0, t_going, t_wanted, t_lends, t_borrows, t_worth)) => bd_X2_gather_1 p1_borrower p1_borrowerGain p1_byYear p1_either p1_lender p1_lenderGain p2 p4 v5 v6 k0 t_going t_wanted t_lends t_borrows t_worth
  | .inr (.inr (.inl (v5, v6, v7, k1, k2, t_going, t_wanted, t_lends, t_borrows, t_worth))) => bd_X2_gather_2 p1_borrower p1_borrowerGain p1_byYear p1_either p1_lender p1_lenderGain p2 p4 v5 v6 v7 k1 k2 t_going t_wanted t_lends t_borrows t_worth
  | .inr (.inr (.inr ((v5, v6, k1, k2, t_going, t_wanted, t_lends, t_borrows, t_worth)))) => bd_X2_gather_3 p1_borrower p1_borrowerGain p1_byYear p1_either p1_lender p1_lenderGain p2 p4 v5 v6 k1 k2 t_going t_wanted t_lends t_borrows t_worth
noncomputable def gn_X2_gather_0 (p1_borrower : Nat → Int32) (p1_borrowerGain : Nat → Int32) (p1_byYear : Nat → Int32) (p1_either : Nat → Int32) (p1_lender : Nat → Int32) (p1_lenderGain : Nat → Int32) (p2 : Int32) (p4 : Int32) (v5 : Int32) (t_going : Int32) (t_wanted : Nat → Int32) (t_lends : Nat → Int32) (t_borrows : Nat → Int32) (t_worth : Nat → Int32) : Option (Int32 × (Nat → Int32) × (Nat → Int32) × (Nat → Int32) × (Nat → Int32)) := lpC (st_X2_gather p1_borrower p1_borrowerGain p1_byYear p1_either p1_lender p1_lenderGain p2 p4) (.inl (v5, t_going, t_wanted, t_lends, t_borrows, t_worth))
noncomputable def gn_X2_gather_1 (p1_borrower : Nat → Int32) (p1_borrowerGain : Nat → Int32) (p1_byYear : Nat → Int32) (p1_either : Nat → Int32) (p1_lender : Nat → Int32) (p1_lenderGain : Nat → Int32) (p2 : Int32) (p4 : Int32) (v5 : Int32) (v6 : Int32) (k0 : Int32) (t_going : Int32) (t_wanted : Nat → Int32) (t_lends : Nat → Int32) (t_borrows : Nat → Int32) (t_worth : Nat → Int32) : Option (Int32 × (Nat → Int32) × (Nat → Int32) × (Nat → Int32) × (Nat → Int32)) := lpC (st_X2_gather p1_borrower p1_borrowerGain p1_byYear p1_either p1_lender p1_lenderGain p2 p4) (.inr (.inl (v5, v6, k0, t_going, t_wanted, t_lends, t_borrows, t_worth)))
noncomputable def gn_X2_gather_2 (p1_borrower : Nat → Int32) (p1_borrowerGain : Nat → Int32) (p1_byYear : Nat → Int32) (p1_either : Nat → Int32) (p1_lender : Nat → Int32) (p1_lenderGain : Nat → Int32) (p2 : Int32) (p4 : Int32) (v5 : Int32) (v6 : Int32) (v7 : Int32) (k1 : Int32) (k2 : Int32) (t_going : Int32) (t_wanted : Nat → Int32) (t_lends : Nat → Int32) (t_borrows : Nat → Int32) (t_worth : Nat → Int32) : Option (Int32 × (Nat → Int32) × (Nat → Int32) × (Nat → Int32) × (Nat → Int32)) := lpC (st_X2_gather p1_borrower p1_borrowerGain p1_byYear p1_either p1_lender p1_lenderGain p2 p4) (.inr (.inr (.inl (v5, v6, v7, k1, k2, t_going, t_wanted, t_lends, t_borrows, t_worth))))
noncomputable def gn_X2_gather_3 (p1_borrower : Nat → Int32) (p1_borrowerGain : Nat → Int32) (p1_byYear : Nat → Int32) (p1_either : Nat → Int32) (p1_lender : Nat → Int32) (p1_lenderGain : Nat → Int32) (p2 : Int32) (p4 : Int32) (v5 : Int32) (v6 : Int32) (k1 : Int32) (k2 : Int32) (t_going : Int32) (t_wanted : Nat → Int32) (t_lends : Nat → Int32) (t_borrows : Nat → Int32) (t_worth : Nat → Int32) : Option (Int32 × (Nat → Int32) × (Nat → Int32) × (Nat → Int32) × (Nat → Int32)) := lpC (st_X2_gather p1_borrower p1_borrowerGain p1_byYear p1_either p1_lender p1_lenderGain p2 p4) (.inr (.inr (.inr ((v5, v6, k1, k2, t_going, t_wanted, t_lends, t_borrows, t_worth)))))
theorem gq_X2_gather_0 (p1_borrower : Nat → Int32) (p1_borrowerGain : Nat → Int32) (p1_byYear : Nat → Int32) (p1_either : Nat → Int32) (p1_lender : Nat → Int32) (p1_lenderGain : Nat → Int32) (p2 : Int32) (p4 : Int32) (v5 : Int32) (t_going : Int32) (t_wanted : Nat → Int32) (t_lends : Nat → Int32) (t_borrows : Nat → Int32) (t_worth : Nat → Int32) : gn_X2_gather_0 p1_borrower p1_borrowerGain p1_byYear p1_either p1_lender p1_lenderGain p2 p4 v5 t_going t_wanted t_lends t_borrows t_worth =
    if p4 ≤ v5 then
      some (t_going, t_wanted, t_lends, t_borrows, t_worth)
    else
      if inb v5 30 = true then
      Option.bind (dn_X10_goesBy p1_borrower p1_either p1_lender (p1_byYear (v5).toNatClampNeg) p2) fun q4 =>
      if q4 = true then
        if inb (p1_byYear (v5).toNatClampNeg) 30 = true then
        if ((p2 >>> ((p1_lender ((p1_byYear (v5).toNatClampNeg)).toNatClampNeg) &&& 31)) &&& 1) = 1 then
          gn_X2_gather_1 p1_borrower p1_borrowerGain p1_byYear p1_either p1_lender p1_lenderGain p2 p4 v5 (p1_byYear (v5).toNatClampNeg) 1 t_going t_wanted t_lends t_borrows t_worth
        else
          gn_X2_gather_1 p1_borrower p1_borrowerGain p1_byYear p1_either p1_lender p1_lenderGain p2 p4 v5 (p1_byYear (v5).toNatClampNeg) 0 t_going t_wanted t_lends t_borrows t_worth
        else none
      else
        gn_X2_gather_0 p1_borrower p1_borrowerGain p1_byYear p1_either p1_lender p1_lenderGain p2 p4 (v5 + 1) t_going t_wanted t_lends t_borrows t_worth
      else none := by
  rw [gn_X2_gather_0, lpC_eq]
  show lpO _ (bd_X2_gather_0 p1_borrower p1_borrowerGain p1_byYear p1_either p1_lender p1_lenderGain p2 p4 v5 t_going t_wanted t_lends t_borrows t_worth) = _
  unfold bd_X2_gather_0
  simp only [lpO_ite, lpO_bind, lpO_none, lpO_l, lpO_r]
  try rfl
theorem gq_X2_gather_1 (p1_borrower : Nat → Int32) (p1_borrowerGain : Nat → Int32) (p1_byYear : Nat → Int32) (p1_either : Nat → Int32) (p1_lender : Nat → Int32) (p1_lenderGain : Nat → Int32) (p2 : Int32) (p4 : Int32) (v5 : Int32) (v6 : Int32) (k0 : Int32) (t_going : Int32) (t_wanted : Nat → Int32) (t_lends : Nat → Int32) (t_borrows : Nat → Int32) (t_worth : Nat → Int32) : gn_X2_gather_1 p1_borrower p1_borrowerGain p1_byYear p1_either p1_lender p1_lenderGain p2 p4 v5 v6 k0 t_going t_wanted t_lends t_borrows t_worth =
    if k0 = 0 then
      if inb v6 30 = true then
      gn_X2_gather_2 p1_borrower p1_borrowerGain p1_byYear p1_either p1_lender p1_lenderGain p2 p4 v5 v6 k0 t_going (p1_borrower (v6).toNatClampNeg) t_going t_wanted t_lends t_borrows t_worth
      else none
    else
      if inb v6 30 = true then
      gn_X2_gather_2 p1_borrower p1_borrowerGain p1_byYear p1_either p1_lender p1_lenderGain p2 p4 v5 v6 k0 t_going (p1_lender (v6).toNatClampNeg) t_going t_wanted t_lends t_borrows t_worth
      else none := by
  rw [gn_X2_gather_1, lpC_eq]
  show lpO _ (bd_X2_gather_1 p1_borrower p1_borrowerGain p1_byYear p1_either p1_lender p1_lenderGain p2 p4 v5 v6 k0 t_going t_wanted t_lends t_borrows t_worth) = _
  unfold bd_X2_gather_1
  simp only [lpO_ite, lpO_bind, lpO_none, lpO_l, lpO_r]
  try rfl
theorem gq_X2_gather_2 (p1_borrower : Nat → Int32) (p1_borrowerGain : Nat → Int32) (p1_byYear : Nat → Int32) (p1_either : Nat → Int32) (p1_lender : Nat → Int32) (p1_lenderGain : Nat → Int32) (p2 : Int32) (p4 : Int32) (v5 : Int32) (v6 : Int32) (v7 : Int32) (k1 : Int32) (k2 : Int32) (t_going : Int32) (t_wanted : Nat → Int32) (t_lends : Nat → Int32) (t_borrows : Nat → Int32) (t_worth : Nat → Int32) : gn_X2_gather_2 p1_borrower p1_borrowerGain p1_byYear p1_either p1_lender p1_lenderGain p2 p4 v5 v6 v7 k1 k2 t_going t_wanted t_lends t_borrows t_worth =
    if inb k1 30 = true then
    if v7 = 0 then
      if inb v6 30 = true then
      gn_X2_gather_3 p1_borrower p1_borrowerGain p1_byYear p1_either p1_lender p1_lenderGain p2 p4 v5 v6 t_going (p1_lender (v6).toNatClampNeg) t_going t_wanted (upd t_lends (k1).toNatClampNeg k2) t_borrows t_worth
      else none
    else
      if inb v6 30 = true then
      gn_X2_gather_3 p1_borrower p1_borrowerGain p1_byYear p1_either p1_lender p1_lenderGain p2 p4 v5 v6 t_going (p1_borrower (v6).toNatClampNeg) t_going t_wanted (upd t_lends (k1).toNatClampNeg k2) t_borrows t_worth
      else none
    else none := by
  rw [gn_X2_gather_2, lpC_eq]
  show lpO _ (bd_X2_gather_2 p1_borrower p1_borrowerGain p1_byYear p1_either p1_lender p1_lenderGain p2 p4 v5 v6 v7 k1 k2 t_going t_wanted t_lends t_borrows t_worth) = _
  unfold bd_X2_gather_2
  simp only [lpO_ite, lpO_bind, lpO_none, lpO_l, lpO_r]
  try rfl
theorem gq_X2_gather_3 (p1_borrower : Nat → Int32) (p1_borrowerGain : Nat → Int32) (p1_byYear : Nat → Int32) (p1_either : Nat → Int32) (p1_lender : Nat → Int32) (p1_lenderGain : Nat → Int32) (p2 : Int32) (p4 : Int32) (v5 : Int32) (v6 : Int32) (k1 : Int32) (k2 : Int32) (t_going : Int32) (t_wanted : Nat → Int32) (t_lends : Nat → Int32) (t_borrows : Nat → Int32) (t_worth : Nat → Int32) : gn_X2_gather_3 p1_borrower p1_borrowerGain p1_byYear p1_either p1_lender p1_lenderGain p2 p4 v5 v6 k1 k2 t_going t_wanted t_lends t_borrows t_worth =
    if inb k1 30 = true then
    Option.bind (dn_X10_bothShares p1_borrowerGain p1_lenderGain v6) fun q16 =>
    if inb t_going 30 = true then
    if inb v6 30 = true then
    if inb (p1_lender (v6).toNatClampNeg) 10 = true then
    if inb (p1_lender (v6).toNatClampNeg) 10 = true then
    if inb v6 30 = true then
    if inb (p1_borrower (v6).toNatClampNeg) 10 = true then
    if inb (p1_borrower (v6).toNatClampNeg) 10 = true then
    gn_X2_gather_0 p1_borrower p1_borrowerGain p1_byYear p1_either p1_lender p1_lenderGain p2 p4 (v5 + 1) (t_going + 1) (upd (upd t_wanted (p1_lender (v6).toNatClampNeg).toNatClampNeg ((t_wanted ((p1_lender (v6).toNatClampNeg)).toNatClampNeg) + 1)) (p1_borrower (v6).toNatClampNeg).toNatClampNeg (((upd t_wanted (p1_lender (v6).toNatClampNeg).toNatClampNeg ((t_wanted ((p1_lender (v6).toNatClampNeg)).toNatClampNeg) + 1)) ((p1_borrower (v6).toNatClampNeg)).toNatClampNeg) + 1)) t_lends (upd t_borrows (k1).toNatClampNeg k2) (upd t_worth (t_going).toNatClampNeg q16)
    else none
    else none
    else none
    else none
    else none
    else none
    else none
    else none := by
  rw [gn_X2_gather_3, lpC_eq]
  show lpO _ (bd_X2_gather_3 p1_borrower p1_borrowerGain p1_byYear p1_either p1_lender p1_lenderGain p2 p4 v5 v6 k1 k2 t_going t_wanted t_lends t_borrows t_worth) = _
  unfold bd_X2_gather_3
  simp only [lpO_ite, lpO_bind, lpO_none, lpO_l, lpO_r]
  try rfl
noncomputable def dn_X2_gather (t_borrows : Nat → Int32) (t_lends : Nat → Int32) (t_wanted : Nat → Int32) (t_worth : Nat → Int32) (p1_borrower : Nat → Int32) (p1_borrowerGain : Nat → Int32) (p1_byYear : Nat → Int32) (p1_either : Nat → Int32) (p1_lender : Nat → Int32) (p1_lenderGain : Nat → Int32) (p2 : Int32) (p3 : Int32) (p4 : Int32) : Option (Int32 × (Nat → Int32) × (Nat → Int32) × (Nat → Int32) × (Nat → Int32)) :=
  gn_X2_gather_0 p1_borrower p1_borrowerGain p1_byYear p1_either p1_lender p1_lenderGain p2 p4 p3 0 (jfill 10 t_wanted 0) t_lends t_borrows t_worth
noncomputable def bd_X2_allFit_0 (t_room : Nat → Int32) (t_wanted : Nat → Int32) (p1 : Int32) (v2 : Int32) : Option (((Int32)) ⊕ (Bool)) :=
  if p1 ≤ v2 then
    some (.inr true)
  else
    if inb v2 10 = true then
    if inb v2 10 = true then
    if (t_wanted (v2).toNatClampNeg) ≤ (t_room (v2).toNatClampNeg) then
      some (.inl (v2 + 1))
    else
      some (.inr false)
    else none
    else none
noncomputable def st_X2_allFit (t_room : Nat → Int32) (t_wanted : Nat → Int32) (p1 : Int32) : ((Int32)) → Option (((Int32)) ⊕ (Bool)) := fun s => match s with
  | v2 => bd_X2_allFit_0 t_room t_wanted p1 v2
noncomputable def gn_X2_allFit_0 (t_room : Nat → Int32) (t_wanted : Nat → Int32) (p1 : Int32) (v2 : Int32) : Option (Bool) := lpC (st_X2_allFit t_room t_wanted p1) (v2)
theorem gq_X2_allFit_0 (t_room : Nat → Int32) (t_wanted : Nat → Int32) (p1 : Int32) (v2 : Int32) : gn_X2_allFit_0 t_room t_wanted p1 v2 =
    if p1 ≤ v2 then
      some true
    else
      if inb v2 10 = true then
      if inb v2 10 = true then
      if (t_wanted (v2).toNatClampNeg) ≤ (t_room (v2).toNatClampNeg) then
        gn_X2_allFit_0 t_room t_wanted p1 (v2 + 1)
      else
        some false
      else none
      else none := by
  rw [gn_X2_allFit_0, lpC_eq]
  show lpO _ (bd_X2_allFit_0 t_room t_wanted p1 v2) = _
  unfold bd_X2_allFit_0
  simp only [lpO_ite, lpO_bind, lpO_none, lpO_l, lpO_r]
  try rfl
noncomputable def dn_X2_allFit (t_room : Nat → Int32) (t_wanted : Nat → Int32) (p1 : Int32) : Option (Bool) :=
  gn_X2_allFit_0 t_room t_wanted p1 0
noncomputable def bd_X2_sumOfGoing_0 (t_going : Int32) (t_worth : Nat → Int32) (v1 : Int32) (v2 : Int32) : Option (((Int32 × Int32)) ⊕ (Int32)) :=
  if t_going ≤ v2 then
    some (.inr v1)
  else
    if inb v2 30 = true then
    some (.inl (v1 + (t_worth (v2).toNatClampNeg), v2 + 1))
    else none
noncomputable def st_X2_sumOfGoing (t_going : Int32) (t_worth : Nat → Int32) : ((Int32 × Int32)) → Option (((Int32 × Int32)) ⊕ (Int32)) := fun s => match s with
  | (v1, v2) => bd_X2_sumOfGoing_0 t_going t_worth v1 v2
noncomputable def gn_X2_sumOfGoing_0 (t_going : Int32) (t_worth : Nat → Int32) (v1 : Int32) (v2 : Int32) : Option (Int32) := lpC (st_X2_sumOfGoing t_going t_worth) ((v1, v2))
theorem gq_X2_sumOfGoing_0 (t_going : Int32) (t_worth : Nat → Int32) (v1 : Int32) (v2 : Int32) : gn_X2_sumOfGoing_0 t_going t_worth v1 v2 =
    if t_going ≤ v2 then
      some v1
    else
      if inb v2 30 = true then
      gn_X2_sumOfGoing_0 t_going t_worth (v1 + (t_worth (v2).toNatClampNeg)) (v2 + 1)
      else none := by
  rw [gn_X2_sumOfGoing_0, lpC_eq]
  show lpO _ (bd_X2_sumOfGoing_0 t_going t_worth v1 v2) = _
  unfold bd_X2_sumOfGoing_0
  simp only [lpO_ite, lpO_bind, lpO_none, lpO_l, lpO_r]
  try rfl
noncomputable def dn_X2_sumOfGoing (t_going : Int32) (t_worth : Nat → Int32) : Option (Int32) :=
  gn_X2_sumOfGoing_0 t_going t_worth 0 0
noncomputable def bd_X2_leadAlong_0 (t_borrows : Nat → Int32) (t_lends : Nat → Int32) (t_worth : Nat → Int32) (p1 : Int32) (k0 : Int32) (t_reach : Nat → Int32) (t_via : Nat → Int32) : Option (((Int32 × (Nat → Int32) × (Nat → Int32)) ⊕ ((Int32 × Int32 × (Nat → Int32) × (Nat → Int32)) ⊕ ((Int32 × Int32 × Int32 × (Nat → Int32) × (Nat → Int32)) ⊕ ((Int32 × Int32 × Int32 × (Nat → Int32) × (Nat → Int32)))))) ⊕ (Bool × (Nat → Int32) × (Nat → Int32))) :=
  if k0 = 0 then
    if inb p1 30 = true then
    some (.inl (.inr (.inl (k0, t_lends (p1).toNatClampNeg, t_reach, t_via))))
    else none
  else
    if inb p1 30 = true then
    some (.inl (.inr (.inl (k0, t_borrows (p1).toNatClampNeg, t_reach, t_via))))
    else none
noncomputable def bd_X2_leadAlong_1 (t_borrows : Nat → Int32) (t_lends : Nat → Int32) (t_worth : Nat → Int32) (p1 : Int32) (v2 : Int32) (k0 : Int32) (t_reach : Nat → Int32) (t_via : Nat → Int32) : Option (((Int32 × (Nat → Int32) × (Nat → Int32)) ⊕ ((Int32 × Int32 × (Nat → Int32) × (Nat → Int32)) ⊕ ((Int32 × Int32 × Int32 × (Nat → Int32) × (Nat → Int32)) ⊕ ((Int32 × Int32 × Int32 × (Nat → Int32) × (Nat → Int32)))))) ⊕ (Bool × (Nat → Int32) × (Nat → Int32))) :=
  if v2 = 0 then
    if inb p1 30 = true then
    some (.inl (.inr (.inr (.inl (v2, k0, t_borrows (p1).toNatClampNeg, t_reach, t_via)))))
    else none
  else
    if inb p1 30 = true then
    some (.inl (.inr (.inr (.inl (v2, k0, t_lends (p1).toNatClampNeg, t_reach, t_via)))))
    else none
noncomputable def bd_X2_leadAlong_2 (t_borrows : Nat → Int32) (t_lends : Nat → Int32) (t_worth : Nat → Int32) (p1 : Int32) (v2 : Int32) (v3 : Int32) (k0 : Int32) (t_reach : Nat → Int32) (t_via : Nat → Int32) : Option (((Int32 × (Nat → Int32) × (Nat → Int32)) ⊕ ((Int32 × Int32 × (Nat → Int32) × (Nat → Int32)) ⊕ ((Int32 × Int32 × Int32 × (Nat → Int32) × (Nat → Int32)) ⊕ ((Int32 × Int32 × Int32 × (Nat → Int32) × (Nat → Int32)))))) ⊕ (Bool × (Nat → Int32) × (Nat → Int32))) :=
  if v2 = 0 then
    if inb p1 30 = true then
    some (.inl (.inr (.inr (.inr ((v3, k0, t_worth (p1).toNatClampNeg, t_reach, t_via))))))
    else none
  else
    if inb p1 30 = true then
    some (.inl (.inr (.inr (.inr ((v3, k0, -(t_worth (p1).toNatClampNeg), t_reach, t_via))))))
    else none
noncomputable def bd_X2_leadAlong_3 (t_borrows : Nat → Int32) (t_lends : Nat → Int32) (t_worth : Nat → Int32) (p1 : Int32) (v3 : Int32) (v4 : Int32) (k0 : Int32) (t_reach : Nat → Int32) (t_via : Nat → Int32) : Option (((Int32 × (Nat → Int32) × (Nat → Int32)) ⊕ ((Int32 × Int32 × (Nat → Int32) × (Nat → Int32)) ⊕ ((Int32 × Int32 × Int32 × (Nat → Int32) × (Nat → Int32)) ⊕ ((Int32 × Int32 × Int32 × (Nat → Int32) × (Nat → Int32)))))) ⊕ (Bool × (Nat → Int32) × (Nat → Int32))) :=
  if inb v3 10 = true then
  if (t_reach (v3).toNatClampNeg) = (-1000000) then
    some (.inr (false, t_reach, t_via))
  else
    if inb v3 10 = true then
    if inb v4 10 = true then
    if (t_reach (v4).toNatClampNeg) < ((t_reach (v3).toNatClampNeg) + k0) then
      if inb v3 10 = true then
      if inb v4 10 = true then
      if inb v4 10 = true then
      some (.inr (true, upd t_reach (v4).toNatClampNeg ((t_reach (v3).toNatClampNeg) + k0), upd t_via (v4).toNatClampNeg p1))
      else none
      else none
      else none
    else
      some (.inr (false, t_reach, t_via))
    else none
    else none
  else none
noncomputable def st_X2_leadAlong (t_borrows : Nat → Int32) (t_lends : Nat → Int32) (t_worth : Nat → Int32) (p1 : Int32) : ((Int32 × (Nat → Int32) × (Nat → Int32)) ⊕ ((Int32 × Int32 × (Nat → Int32) × (Nat → Int32)) ⊕ ((Int32 × Int32 × Int32 × (Nat → Int32) × (Nat → Int32)) ⊕ ((Int32 × Int32 × Int32 × (Nat → Int32) × (Nat → Int32)))))) → Option (((Int32 × (Nat → Int32) × (Nat → Int32)) ⊕ ((Int32 × Int32 × (Nat → Int32) × (Nat → Int32)) ⊕ ((Int32 × Int32 × Int32 × (Nat → Int32) × (Nat → Int32)) ⊕ ((Int32 × Int32 × Int32 × (Nat → Int32) × (Nat → Int32)))))) ⊕ (Bool × (Nat → Int32) × (Nat → Int32))) := fun s => match s with
  | .inl (k0, t_reach, t_via) => bd_X2_leadAlong_0 t_borrows t_lends t_worth p1 k0 t_reach t_via
  | .inr (.inl (v2, k0, t_reach, t_via)) => bd_X2_leadAlong_1 t_borrows t_lends t_worth p1 v2 k0 t_reach t_via
  | .inr (.inr (.inl (v2, v3, k0, t_reach, t_via))) => bd_X2_leadAlong_2 t_borrows t_lends t_worth p1 v2 v3 k0 t_reach t_via
  | .inr (.inr (.inr ((v3, v4, k0, t_reach, t_via)))) => bd_X2_leadAlong_3 t_borrows t_lends t_worth p1 v3 v4 k0 t_reach t_via
noncomputable def gn_X2_leadAlong_0 (t_borrows : Nat → Int32) (t_lends : Nat → Int32) (t_worth : Nat → Int32) (p1 : Int32) (k0 : Int32) (t_reach : Nat → Int32) (t_via : Nat → Int32) : Option (Bool × (Nat → Int32) × (Nat → Int32)) := lpC (st_X2_leadAlong t_borrows t_lends t_worth p1) (.inl (k0, t_reach, t_via))
noncomputable def gn_X2_leadAlong_1 (t_borrows : Nat → Int32) (t_lends : Nat → Int32) (t_worth : Nat → Int32) (p1 : Int32) (v2 : Int32) (k0 : Int32) (t_reach : Nat → Int32) (t_via : Nat → Int32) : Option (Bool × (Nat → Int32) × (Nat → Int32)) := lpC (st_X2_leadAlong t_borrows t_lends t_worth p1) (.inr (.inl (v2, k0, t_reach, t_via)))
noncomputable def gn_X2_leadAlong_2 (t_borrows : Nat → Int32) (t_lends : Nat → Int32) (t_worth : Nat → Int32) (p1 : Int32) (v2 : Int32) (v3 : Int32) (k0 : Int32) (t_reach : Nat → Int32) (t_via : Nat → Int32) : Option (Bool × (Nat → Int32) × (Nat → Int32)) := lpC (st_X2_leadAlong t_borrows t_lends t_worth p1) (.inr (.inr (.inl (v2, v3, k0, t_reach, t_via))))
noncomputable def gn_X2_leadAlong_3 (t_borrows : Nat → Int32) (t_lends : Nat → Int32) (t_worth : Nat → Int32) (p1 : Int32) (v3 : Int32) (v4 : Int32) (k0 : Int32) (t_reach : Nat → Int32) (t_via : Nat → Int32) : Option (Bool × (Nat → Int32) × (Nat → Int32)) := lpC (st_X2_leadAlong t_borrows t_lends t_worth p1) (.inr (.inr (.inr ((v3, v4, k0, t_reach, t_via)))))
theorem gq_X2_leadAlong_0 (t_borrows : Nat → Int32) (t_lends : Nat → Int32) (t_worth : Nat → Int32) (p1 : Int32) (k0 : Int32) (t_reach : Nat → Int32) (t_via : Nat → Int32) : gn_X2_leadAlong_0 t_borrows t_lends t_worth p1 k0 t_reach t_via =
    if k0 = 0 then
      if inb p1 30 = true then
      gn_X2_leadAlong_1 t_borrows t_lends t_worth p1 k0 (t_lends (p1).toNatClampNeg) t_reach t_via
      else none
    else
      if inb p1 30 = true then
      gn_X2_leadAlong_1 t_borrows t_lends t_worth p1 k0 (t_borrows (p1).toNatClampNeg) t_reach t_via
      else none := by
  rw [gn_X2_leadAlong_0, lpC_eq]
  show lpO _ (bd_X2_leadAlong_0 t_borrows t_lends t_worth p1 k0 t_reach t_via) = _
  unfold bd_X2_leadAlong_0
  simp only [lpO_ite, lpO_bind, lpO_none, lpO_l, lpO_r]
  try rfl
theorem gq_X2_leadAlong_1 (t_borrows : Nat → Int32) (t_lends : Nat → Int32) (t_worth : Nat → Int32) (p1 : Int32) (v2 : Int32) (k0 : Int32) (t_reach : Nat → Int32) (t_via : Nat → Int32) : gn_X2_leadAlong_1 t_borrows t_lends t_worth p1 v2 k0 t_reach t_via =
    if v2 = 0 then
      if inb p1 30 = true then
      gn_X2_leadAlong_2 t_borrows t_lends t_worth p1 v2 k0 (t_borrows (p1).toNatClampNeg) t_reach t_via
      else none
    else
      if inb p1 30 = true then
      gn_X2_leadAlong_2 t_borrows t_lends t_worth p1 v2 k0 (t_lends (p1).toNatClampNeg) t_reach t_via
      else none := by
  rw [gn_X2_leadAlong_1, lpC_eq]
  show lpO _ (bd_X2_leadAlong_1 t_borrows t_lends t_worth p1 v2 k0 t_reach t_via) = _
  unfold bd_X2_leadAlong_1
  simp only [lpO_ite, lpO_bind, lpO_none, lpO_l, lpO_r]
  try rfl
theorem gq_X2_leadAlong_2 (t_borrows : Nat → Int32) (t_lends : Nat → Int32) (t_worth : Nat → Int32) (p1 : Int32) (v2 : Int32) (v3 : Int32) (k0 : Int32) (t_reach : Nat → Int32) (t_via : Nat → Int32) : gn_X2_leadAlong_2 t_borrows t_lends t_worth p1 v2 v3 k0 t_reach t_via =
    if v2 = 0 then
      if inb p1 30 = true then
      gn_X2_leadAlong_3 t_borrows t_lends t_worth p1 v3 k0 (t_worth (p1).toNatClampNeg) t_reach t_via
      else none
    else
      if inb p1 30 = true then
      gn_X2_leadAlong_3 t_borrows t_lends t_worth p1 v3 k0 (-(t_worth (p1).toNatClampNeg)) t_reach t_via
      else none := by
  rw [gn_X2_leadAlong_2, lpC_eq]
  show lpO _ (bd_X2_leadAlong_2 t_borrows t_lends t_worth p1 v2 v3 k0 t_reach t_via) = _
  unfold bd_X2_leadAlong_2
  simp only [lpO_ite, lpO_bind, lpO_none, lpO_l, lpO_r]
  try rfl
theorem gq_X2_leadAlong_3 (t_borrows : Nat → Int32) (t_lends : Nat → Int32) (t_worth : Nat → Int32) (p1 : Int32) (v3 : Int32) (v4 : Int32) (k0 : Int32) (t_reach : Nat → Int32) (t_via : Nat → Int32) : gn_X2_leadAlong_3 t_borrows t_lends t_worth p1 v3 v4 k0 t_reach t_via =
    if inb v3 10 = true then
    if (t_reach (v3).toNatClampNeg) = (-1000000) then
      some (false, t_reach, t_via)
    else
      if inb v3 10 = true then
      if inb v4 10 = true then
      if (t_reach (v4).toNatClampNeg) < ((t_reach (v3).toNatClampNeg) + k0) then
        if inb v3 10 = true then
        if inb v4 10 = true then
        if inb v4 10 = true then
        some (true, upd t_reach (v4).toNatClampNeg ((t_reach (v3).toNatClampNeg) + k0), upd t_via (v4).toNatClampNeg p1)
        else none
        else none
        else none
      else
        some (false, t_reach, t_via)
      else none
      else none
    else none := by
  rw [gn_X2_leadAlong_3, lpC_eq]
  show lpO _ (bd_X2_leadAlong_3 t_borrows t_lends t_worth p1 v3 v4 k0 t_reach t_via) = _
  unfold bd_X2_leadAlong_3
  simp only [lpO_ite, lpO_bind, lpO_none, lpO_l, lpO_r]
  try rfl
noncomputable def dn_X2_leadAlong (t_chosen : Int32) (t_borrows : Nat → Int32) (t_lends : Nat → Int32) (t_reach : Nat → Int32) (t_via : Nat → Int32) (t_worth : Nat → Int32) (p1 : Int32) : Option (Bool × (Nat → Int32) × (Nat → Int32)) :=
  if ((t_chosen >>> (p1 &&& 31)) &&& 1) = 1 then
    gn_X2_leadAlong_0 t_borrows t_lends t_worth p1 1 t_reach t_via
  else
    gn_X2_leadAlong_0 t_borrows t_lends t_worth p1 0 t_reach t_via
noncomputable def bd_X2_spread_0 (t_going : Int32) (t_chosen : Int32) (t_borrows : Nat → Int32) (t_lends : Nat → Int32) (t_room : Nat → Int32) (t_worth : Nat → Int32) (p1 : Int32) (p2 : Int32) (v3 : Int32) (t_reach : Nat → Int32) (t_via : Nat → Int32) : Option (((Int32 × (Nat → Int32) × (Nat → Int32)) ⊕ ((Int32 × Int32 × (Nat → Int32) × (Nat → Int32)) ⊕ ((Int32 × Int32 × (Nat → Int32) × (Nat → Int32)) ⊕ ((Int32 × Int32 × Int32 × (Nat → Int32) × (Nat → Int32)))))) ⊕ ((Nat → Int32) × (Nat → Int32))) :=
  if p1 ≤ v3 then
    some (.inl (.inr (.inl (1, 0, t_reach, t_via))))
  else
    if ((p2 >>> (v3 &&& 31)) &&& 1) = 1 then
      if inb v3 10 = true then
      if (t_room (v3).toNatClampNeg) ≤ 0 then
        some (.inl (.inr (.inr (.inl (v3, 0, t_reach, t_via)))))
      else
        some (.inl (.inr (.inr (.inl (v3, 1, t_reach, t_via)))))
      else none
    else
      some (.inl (.inr (.inr (.inl (v3, 0, t_reach, t_via)))))
noncomputable def bd_X2_spread_1 (t_going : Int32) (t_chosen : Int32) (t_borrows : Nat → Int32) (t_lends : Nat → Int32) (t_room : Nat → Int32) (t_worth : Nat → Int32) (p1 : Int32) (p2 : Int32) (v3 : Int32) (v4 : Int32) (t_reach : Nat → Int32) (t_via : Nat → Int32) : Option (((Int32 × (Nat → Int32) × (Nat → Int32)) ⊕ ((Int32 × Int32 × (Nat → Int32) × (Nat → Int32)) ⊕ ((Int32 × Int32 × (Nat → Int32) × (Nat → Int32)) ⊕ ((Int32 × Int32 × Int32 × (Nat → Int32) × (Nat → Int32)))))) ⊕ ((Nat → Int32) × (Nat → Int32))) :=
  if (10 : Int32) < v4 then
    some (.inr (t_reach, t_via))
  else
    if v3 = 0 then
      some (.inr (t_reach, t_via))
    else
      some (.inl (.inr (.inr (.inr ((0, v4, 0, t_reach, t_via))))))
noncomputable def bd_X2_spread_2 (t_going : Int32) (t_chosen : Int32) (t_borrows : Nat → Int32) (t_lends : Nat → Int32) (t_room : Nat → Int32) (t_worth : Nat → Int32) (p1 : Int32) (p2 : Int32) (v3 : Int32) (k0 : Int32) (t_reach : Nat → Int32) (t_via : Nat → Int32) : Option (((Int32 × (Nat → Int32) × (Nat → Int32)) ⊕ ((Int32 × Int32 × (Nat → Int32) × (Nat → Int32)) ⊕ ((Int32 × Int32 × (Nat → Int32) × (Nat → Int32)) ⊕ ((Int32 × Int32 × Int32 × (Nat → Int32) × (Nat → Int32)))))) ⊕ ((Nat → Int32) × (Nat → Int32))) :=
  if k0 = 0 then
    if inb v3 10 = true then
    if inb v3 10 = true then
    some (.inl (.inl (v3 + 1, upd t_reach (v3).toNatClampNeg (-1000000), upd t_via (v3).toNatClampNeg (-1))))
    else none
    else none
  else
    if inb v3 10 = true then
    if inb v3 10 = true then
    some (.inl (.inl (v3 + 1, upd t_reach (v3).toNatClampNeg 0, upd t_via (v3).toNatClampNeg (-1))))
    else none
    else none
noncomputable def bd_X2_spread_3 (t_going : Int32) (t_chosen : Int32) (t_borrows : Nat → Int32) (t_lends : Nat → Int32) (t_room : Nat → Int32) (t_worth : Nat → Int32) (p1 : Int32) (p2 : Int32) (v3 : Int32) (v4 : Int32) (v5 : Int32) (t_reach : Nat → Int32) (t_via : Nat → Int32) : Option (((Int32 × (Nat → Int32) × (Nat → Int32)) ⊕ ((Int32 × Int32 × (Nat → Int32) × (Nat → Int32)) ⊕ ((Int32 × Int32 × (Nat → Int32) × (Nat → Int32)) ⊕ ((Int32 × Int32 × Int32 × (Nat → Int32) × (Nat → Int32)))))) ⊕ ((Nat → Int32) × (Nat → Int32))) :=
  if t_going ≤ v5 then
    some (.inl (.inr (.inl (v3, v4 + 1, t_reach, t_via))))
  else
    Option.bind (dn_X2_leadAlong t_chosen t_borrows t_lends t_reach t_via t_worth v5) fun q13 =>
    if q13.1 = true then
      some (.inl (.inr (.inr (.inr ((1, v4, v5 + 1, q13.2.1, q13.2.2))))))
    else
      some (.inl (.inr (.inr (.inr ((v3, v4, v5 + 1, q13.2.1, q13.2.2))))))
noncomputable def st_X2_spread (t_going : Int32) (t_chosen : Int32) (t_borrows : Nat → Int32) (t_lends : Nat → Int32) (t_room : Nat → Int32) (t_worth : Nat → Int32) (p1 : Int32) (p2 : Int32) : ((Int32 × (Nat → Int32) × (Nat → Int32)) ⊕ ((Int32 × Int32 × (Nat → Int32) × (Nat → Int32)) ⊕ ((Int32 × Int32 × (Nat → Int32) × (Nat → Int32)) ⊕ ((Int32 × Int32 × Int32 × (Nat → Int32) × (Nat → Int32)))))) → Option (((Int32 × (Nat → Int32) × (Nat → Int32)) ⊕ ((Int32 × Int32 × (Nat → Int32) × (Nat → Int32)) ⊕ ((Int32 × Int32 × (Nat → Int32) × (Nat → Int32)) ⊕ ((Int32 × Int32 × Int32 × (Nat → Int32) × (Nat → Int32)))))) ⊕ ((Nat → Int32) × (Nat → Int32))) := fun s => match s with
  | .inl (v3, t_reach, t_via) => bd_X2_spread_0 t_going t_chosen t_borrows t_lends t_room t_worth p1 p2 v3 t_reach t_via
  | .inr (.inl (v3, v4, t_reach, t_via)) => bd_X2_spread_1 t_going t_chosen t_borrows t_lends t_room t_worth p1 p2 v3 v4 t_reach t_via
  | .inr (.inr (.inl (v3, k0, t_reach, t_via))) => bd_X2_spread_2 t_going t_chosen t_borrows t_lends t_room t_worth p1 p2 v3 k0 t_reach t_via
  | .inr (.inr (.inr ((v3, v4, v5, t_reach, t_via)))) => bd_X2_spread_3 t_going t_chosen t_borrows t_lends t_room t_worth p1 p2 v3 v4 v5 t_reach t_via
noncomputable def gn_X2_spread_0 (t_going : Int32) (t_chosen : Int32) (t_borrows : Nat → Int32) (t_lends : Nat → Int32) (t_room : Nat → Int32) (t_worth : Nat → Int32) (p1 : Int32) (p2 : Int32) (v3 : Int32) (t_reach : Nat → Int32) (t_via : Nat → Int32) : Option ((Nat → Int32) × (Nat → Int32)) := lpC (st_X2_spread t_going t_chosen t_borrows t_lends t_room t_worth p1 p2) (.inl (v3, t_reach, t_via))
noncomputable def gn_X2_spread_1 (t_going : Int32) (t_chosen : Int32) (t_borrows : Nat → Int32) (t_lends : Nat → Int32) (t_room : Nat → Int32) (t_worth : Nat → Int32) (p1 : Int32) (p2 : Int32) (v3 : Int32) (v4 : Int32) (t_reach : Nat → Int32) (t_via : Nat → Int32) : Option ((Nat → Int32) × (Nat → Int32)) := lpC (st_X2_spread t_going t_chosen t_borrows t_lends t_room t_worth p1 p2) (.inr (.inl (v3, v4, t_reach, t_via)))
noncomputable def gn_X2_spread_2 (t_going : Int32) (t_chosen : Int32) (t_borrows : Nat → Int32) (t_lends : Nat → Int32) (t_room : Nat → Int32) (t_worth : Nat → Int32) (p1 : Int32) (p2 : Int32) (v3 : Int32) (k0 : Int32) (t_reach : Nat → Int32) (t_via : Nat → Int32) : Option ((Nat → Int32) × (Nat → Int32)) := lpC (st_X2_spread t_going t_chosen t_borrows t_lends t_room t_worth p1 p2) (.inr (.inr (.inl (v3, k0, t_reach, t_via))))
noncomputable def gn_X2_spread_3 (t_going : Int32) (t_chosen : Int32) (t_borrows : Nat → Int32) (t_lends : Nat → Int32) (t_room : Nat → Int32) (t_worth : Nat → Int32) (p1 : Int32) (p2 : Int32) (v3 : Int32) (v4 : Int32) (v5 : Int32) (t_reach : Nat → Int32) (t_via : Nat → Int32) : Option ((Nat → Int32) × (Nat → Int32)) := lpC (st_X2_spread t_going t_chosen t_borrows t_lends t_room t_worth p1 p2) (.inr (.inr (.inr ((v3, v4, v5, t_reach, t_via)))))
theorem gq_X2_spread_0 (t_going : Int32) (t_chosen : Int32) (t_borrows : Nat → Int32) (t_lends : Nat → Int32) (t_room : Nat → Int32) (t_worth : Nat → Int32) (p1 : Int32) (p2 : Int32) (v3 : Int32) (t_reach : Nat → Int32) (t_via : Nat → Int32) : gn_X2_spread_0 t_going t_chosen t_borrows t_lends t_room t_worth p1 p2 v3 t_reach t_via =
    if p1 ≤ v3 then
      gn_X2_spread_1 t_going t_chosen t_borrows t_lends t_room t_worth p1 p2 1 0 t_reach t_via
    else
      if ((p2 >>> (v3 &&& 31)) &&& 1) = 1 then
        if inb v3 10 = true then
        if (t_room (v3).toNatClampNeg) ≤ 0 then
          gn_X2_spread_2 t_going t_chosen t_borrows t_lends t_room t_worth p1 p2 v3 0 t_reach t_via
        else
          gn_X2_spread_2 t_going t_chosen t_borrows t_lends t_room t_worth p1 p2 v3 1 t_reach t_via
        else none
      else
        gn_X2_spread_2 t_going t_chosen t_borrows t_lends t_room t_worth p1 p2 v3 0 t_reach t_via := by
  rw [gn_X2_spread_0, lpC_eq]
  show lpO _ (bd_X2_spread_0 t_going t_chosen t_borrows t_lends t_room t_worth p1 p2 v3 t_reach t_via) = _
  unfold bd_X2_spread_0
  simp only [lpO_ite, lpO_bind, lpO_none, lpO_l, lpO_r]
  try rfl
theorem gq_X2_spread_1 (t_going : Int32) (t_chosen : Int32) (t_borrows : Nat → Int32) (t_lends : Nat → Int32) (t_room : Nat → Int32) (t_worth : Nat → Int32) (p1 : Int32) (p2 : Int32) (v3 : Int32) (v4 : Int32) (t_reach : Nat → Int32) (t_via : Nat → Int32) : gn_X2_spread_1 t_going t_chosen t_borrows t_lends t_room t_worth p1 p2 v3 v4 t_reach t_via =
    if (10 : Int32) < v4 then
      some (t_reach, t_via)
    else
      if v3 = 0 then
        some (t_reach, t_via)
      else
        gn_X2_spread_3 t_going t_chosen t_borrows t_lends t_room t_worth p1 p2 0 v4 0 t_reach t_via := by
  rw [gn_X2_spread_1, lpC_eq]
  show lpO _ (bd_X2_spread_1 t_going t_chosen t_borrows t_lends t_room t_worth p1 p2 v3 v4 t_reach t_via) = _
  unfold bd_X2_spread_1
  simp only [lpO_ite, lpO_bind, lpO_none, lpO_l, lpO_r]
  try rfl
theorem gq_X2_spread_2 (t_going : Int32) (t_chosen : Int32) (t_borrows : Nat → Int32) (t_lends : Nat → Int32) (t_room : Nat → Int32) (t_worth : Nat → Int32) (p1 : Int32) (p2 : Int32) (v3 : Int32) (k0 : Int32) (t_reach : Nat → Int32) (t_via : Nat → Int32) : gn_X2_spread_2 t_going t_chosen t_borrows t_lends t_room t_worth p1 p2 v3 k0 t_reach t_via =
    if k0 = 0 then
      if inb v3 10 = true then
      if inb v3 10 = true then
      gn_X2_spread_0 t_going t_chosen t_borrows t_lends t_room t_worth p1 p2 (v3 + 1) (upd t_reach (v3).toNatClampNeg (-1000000)) (upd t_via (v3).toNatClampNeg (-1))
      else none
      else none
    else
      if inb v3 10 = true then
      if inb v3 10 = true then
      gn_X2_spread_0 t_going t_chosen t_borrows t_lends t_room t_worth p1 p2 (v3 + 1) (upd t_reach (v3).toNatClampNeg 0) (upd t_via (v3).toNatClampNeg (-1))
      else none
      else none := by
  rw [gn_X2_spread_2, lpC_eq]
  show lpO _ (bd_X2_spread_2 t_going t_chosen t_borrows t_lends t_room t_worth p1 p2 v3 k0 t_reach t_via) = _
  unfold bd_X2_spread_2
  simp only [lpO_ite, lpO_bind, lpO_none, lpO_l, lpO_r]
  try rfl
theorem gq_X2_spread_3 (t_going : Int32) (t_chosen : Int32) (t_borrows : Nat → Int32) (t_lends : Nat → Int32) (t_room : Nat → Int32) (t_worth : Nat → Int32) (p1 : Int32) (p2 : Int32) (v3 : Int32) (v4 : Int32) (v5 : Int32) (t_reach : Nat → Int32) (t_via : Nat → Int32) : gn_X2_spread_3 t_going t_chosen t_borrows t_lends t_room t_worth p1 p2 v3 v4 v5 t_reach t_via =
    if t_going ≤ v5 then
      gn_X2_spread_1 t_going t_chosen t_borrows t_lends t_room t_worth p1 p2 v3 (v4 + 1) t_reach t_via
    else
      Option.bind (dn_X2_leadAlong t_chosen t_borrows t_lends t_reach t_via t_worth v5) fun q13 =>
      if q13.1 = true then
        gn_X2_spread_3 t_going t_chosen t_borrows t_lends t_room t_worth p1 p2 1 v4 (v5 + 1) q13.2.1 q13.2.2
      else
        gn_X2_spread_3 t_going t_chosen t_borrows t_lends t_room t_worth p1 p2 v3 v4 (v5 + 1) q13.2.1 q13.2.2 := by
  rw [gn_X2_spread_3, lpC_eq]
  show lpO _ (bd_X2_spread_3 t_going t_chosen t_borrows t_lends t_room t_worth p1 p2 v3 v4 v5 t_reach t_via) = _
  unfold bd_X2_spread_3
  simp only [lpO_ite, lpO_bind, lpO_none, lpO_l, lpO_r]
  try rfl
noncomputable def dn_X2_spread (t_going : Int32) (t_chosen : Int32) (t_borrows : Nat → Int32) (t_lends : Nat → Int32) (t_reach : Nat → Int32) (t_room : Nat → Int32) (t_via : Nat → Int32) (t_worth : Nat → Int32) (p1 : Int32) (p2 : Int32) : Option ((Nat → Int32) × (Nat → Int32)) :=
  gn_X2_spread_0 t_going t_chosen t_borrows t_lends t_room t_worth p1 p2 0 t_reach t_via
noncomputable def bd_X2_bestEnd_0 (t_reach : Nat → Int32) (t_room : Nat → Int32) (p1 : Int32) (p2 : Int32) (v3 : Int32) (v4 : Int32) (v5 : Int32) : Option (((Int32 × Int32 × Int32) ⊕ ((Int32 × Int32 × Int32 × Int32))) ⊕ (Int32)) :=
  if p1 ≤ v5 then
    some (.inr v3)
  else
    if ((p2 >>> (v5 &&& 31)) &&& 1) = 0 then
      some (.inl (.inr ((v3, v4, v5, 1))))
    else
      some (.inl (.inr ((v3, v4, v5, 0))))
noncomputable def bd_X2_bestEnd_1 (t_reach : Nat → Int32) (t_room : Nat → Int32) (p1 : Int32) (p2 : Int32) (v3 : Int32) (v4 : Int32) (v5 : Int32) (k0 : Int32) : Option (((Int32 × Int32 × Int32) ⊕ ((Int32 × Int32 × Int32 × Int32))) ⊕ (Int32)) :=
  if k0 = 0 then
    some (.inl (.inl (v3, v4, v5 + 1)))
  else
    if inb v5 10 = true then
    if (t_room (v5).toNatClampNeg) ≤ 0 then
      some (.inl (.inl (v3, v4, v5 + 1)))
    else
      if inb v5 10 = true then
      if (t_reach (v5).toNatClampNeg) ≤ v4 then
        some (.inl (.inl (v3, v4, v5 + 1)))
      else
        if inb v5 10 = true then
        some (.inl (.inl (v5, t_reach (v5).toNatClampNeg, v5 + 1)))
        else none
      else none
    else none
noncomputable def st_X2_bestEnd (t_reach : Nat → Int32) (t_room : Nat → Int32) (p1 : Int32) (p2 : Int32) : ((Int32 × Int32 × Int32) ⊕ ((Int32 × Int32 × Int32 × Int32))) → Option (((Int32 × Int32 × Int32) ⊕ ((Int32 × Int32 × Int32 × Int32))) ⊕ (Int32)) := fun s => match s with
  | .inl (v3, v4, v5) => bd_X2_bestEnd_0 t_reach t_room p1 p2 v3 v4 v5
  | .inr ((v3, v4, v5, k0)) => bd_X2_bestEnd_1 t_reach t_room p1 p2 v3 v4 v5 k0
noncomputable def gn_X2_bestEnd_0 (t_reach : Nat → Int32) (t_room : Nat → Int32) (p1 : Int32) (p2 : Int32) (v3 : Int32) (v4 : Int32) (v5 : Int32) : Option (Int32) := lpC (st_X2_bestEnd t_reach t_room p1 p2) (.inl (v3, v4, v5))
noncomputable def gn_X2_bestEnd_1 (t_reach : Nat → Int32) (t_room : Nat → Int32) (p1 : Int32) (p2 : Int32) (v3 : Int32) (v4 : Int32) (v5 : Int32) (k0 : Int32) : Option (Int32) := lpC (st_X2_bestEnd t_reach t_room p1 p2) (.inr ((v3, v4, v5, k0)))
theorem gq_X2_bestEnd_0 (t_reach : Nat → Int32) (t_room : Nat → Int32) (p1 : Int32) (p2 : Int32) (v3 : Int32) (v4 : Int32) (v5 : Int32) : gn_X2_bestEnd_0 t_reach t_room p1 p2 v3 v4 v5 =
    if p1 ≤ v5 then
      some v3
    else
      if ((p2 >>> (v5 &&& 31)) &&& 1) = 0 then
        gn_X2_bestEnd_1 t_reach t_room p1 p2 v3 v4 v5 1
      else
        gn_X2_bestEnd_1 t_reach t_room p1 p2 v3 v4 v5 0 := by
  rw [gn_X2_bestEnd_0, lpC_eq]
  show lpO _ (bd_X2_bestEnd_0 t_reach t_room p1 p2 v3 v4 v5) = _
  unfold bd_X2_bestEnd_0
  simp only [lpO_ite, lpO_bind, lpO_none, lpO_l, lpO_r]
  try rfl
theorem gq_X2_bestEnd_1 (t_reach : Nat → Int32) (t_room : Nat → Int32) (p1 : Int32) (p2 : Int32) (v3 : Int32) (v4 : Int32) (v5 : Int32) (k0 : Int32) : gn_X2_bestEnd_1 t_reach t_room p1 p2 v3 v4 v5 k0 =
    if k0 = 0 then
      gn_X2_bestEnd_0 t_reach t_room p1 p2 v3 v4 (v5 + 1)
    else
      if inb v5 10 = true then
      if (t_room (v5).toNatClampNeg) ≤ 0 then
        gn_X2_bestEnd_0 t_reach t_room p1 p2 v3 v4 (v5 + 1)
      else
        if inb v5 10 = true then
        if (t_reach (v5).toNatClampNeg) ≤ v4 then
          gn_X2_bestEnd_0 t_reach t_room p1 p2 v3 v4 (v5 + 1)
        else
          if inb v5 10 = true then
          gn_X2_bestEnd_0 t_reach t_room p1 p2 v5 (t_reach (v5).toNatClampNeg) (v5 + 1)
          else none
        else none
      else none := by
  rw [gn_X2_bestEnd_1, lpC_eq]
  show lpO _ (bd_X2_bestEnd_1 t_reach t_room p1 p2 v3 v4 v5 k0) = _
  unfold bd_X2_bestEnd_1
  simp only [lpO_ite, lpO_bind, lpO_none, lpO_l, lpO_r]
  try rfl
noncomputable def dn_X2_bestEnd (t_reach : Nat → Int32) (t_room : Nat → Int32) (p1 : Int32) (p2 : Int32) : Option (Int32) :=
  gn_X2_bestEnd_0 t_reach t_room p1 p2 (-1) 0 0
noncomputable def bd_X2_turnPath_0 (t_borrows : Nat → Int32) (t_lends : Nat → Int32) (t_via : Nat → Int32) (p1 : Int32) (v2 : Int32) (v3 : Int32) (t_chosen : Int32) (t_room : Nat → Int32) : Option (((Int32 × Int32 × Int32 × (Nat → Int32)) ⊕ ((Int32 × Int32 × (Nat → Int32)))) ⊕ (Int32 × (Nat → Int32))) :=
  if (10 : Int32) < v3 then
    some (.inl (.inr ((v2, t_chosen, t_room))))
  else
    if inb v2 10 = true then
    if (t_via (v2).toNatClampNeg) = (-1) then
      some (.inl (.inr ((v2, t_chosen, t_room))))
    else
      if inb v2 10 = true then
      if inb (t_via (v2).toNatClampNeg) 30 = true then
      if (t_lends ((t_via (v2).toNatClampNeg)).toNatClampNeg) = v2 then
        if inb (t_via (v2).toNatClampNeg) 30 = true then
        some (.inl (.inl (t_borrows ((t_via (v2).toNatClampNeg)).toNatClampNeg, v3 + 1, t_chosen ^^^ ((1 : Int32) <<< ((t_via (v2).toNatClampNeg) &&& 31)), t_room)))
        else none
      else
        if inb (t_via (v2).toNatClampNeg) 30 = true then
        some (.inl (.inl (t_lends ((t_via (v2).toNatClampNeg)).toNatClampNeg, v3 + 1, t_chosen ^^^ ((1 : Int32) <<< ((t_via (v2).toNatClampNeg) &&& 31)), t_room)))
        else none
      else none
      else none
    else none
noncomputable def bd_X2_turnPath_1 (t_borrows : Nat → Int32) (t_lends : Nat → Int32) (t_via : Nat → Int32) (p1 : Int32) (v2 : Int32) (t_chosen : Int32) (t_room : Nat → Int32) : Option (((Int32 × Int32 × Int32 × (Nat → Int32)) ⊕ ((Int32 × Int32 × (Nat → Int32)))) ⊕ (Int32 × (Nat → Int32))) :=
  if inb v2 10 = true then
  if inb v2 10 = true then
  if inb p1 10 = true then
  if inb p1 10 = true then
  some (.inr (t_chosen, upd (upd t_room (v2).toNatClampNeg ((t_room (v2).toNatClampNeg) - 1)) (p1).toNatClampNeg (((upd t_room (v2).toNatClampNeg ((t_room (v2).toNatClampNeg) - 1)) (p1).toNatClampNeg) - 1)))
  else none
  else none
  else none
  else none
noncomputable def st_X2_turnPath (t_borrows : Nat → Int32) (t_lends : Nat → Int32) (t_via : Nat → Int32) (p1 : Int32) : ((Int32 × Int32 × Int32 × (Nat → Int32)) ⊕ ((Int32 × Int32 × (Nat → Int32)))) → Option (((Int32 × Int32 × Int32 × (Nat → Int32)) ⊕ ((Int32 × Int32 × (Nat → Int32)))) ⊕ (Int32 × (Nat → Int32))) := fun s => match s with
  | .inl (v2, v3, t_chosen, t_room) => bd_X2_turnPath_0 t_borrows t_lends t_via p1 v2 v3 t_chosen t_room
  | .inr ((v2, t_chosen, t_room)) => bd_X2_turnPath_1 t_borrows t_lends t_via p1 v2 t_chosen t_room
noncomputable def gn_X2_turnPath_0 (t_borrows : Nat → Int32) (t_lends : Nat → Int32) (t_via : Nat → Int32) (p1 : Int32) (v2 : Int32) (v3 : Int32) (t_chosen : Int32) (t_room : Nat → Int32) : Option (Int32 × (Nat → Int32)) := lpC (st_X2_turnPath t_borrows t_lends t_via p1) (.inl (v2, v3, t_chosen, t_room))
noncomputable def gn_X2_turnPath_1 (t_borrows : Nat → Int32) (t_lends : Nat → Int32) (t_via : Nat → Int32) (p1 : Int32) (v2 : Int32) (t_chosen : Int32) (t_room : Nat → Int32) : Option (Int32 × (Nat → Int32)) := lpC (st_X2_turnPath t_borrows t_lends t_via p1) (.inr ((v2, t_chosen, t_room)))
theorem gq_X2_turnPath_0 (t_borrows : Nat → Int32) (t_lends : Nat → Int32) (t_via : Nat → Int32) (p1 : Int32) (v2 : Int32) (v3 : Int32) (t_chosen : Int32) (t_room : Nat → Int32) : gn_X2_turnPath_0 t_borrows t_lends t_via p1 v2 v3 t_chosen t_room =
    if (10 : Int32) < v3 then
      gn_X2_turnPath_1 t_borrows t_lends t_via p1 v2 t_chosen t_room
    else
      if inb v2 10 = true then
      if (t_via (v2).toNatClampNeg) = (-1) then
        gn_X2_turnPath_1 t_borrows t_lends t_via p1 v2 t_chosen t_room
      else
        if inb v2 10 = true then
        if inb (t_via (v2).toNatClampNeg) 30 = true then
        if (t_lends ((t_via (v2).toNatClampNeg)).toNatClampNeg) = v2 then
          if inb (t_via (v2).toNatClampNeg) 30 = true then
          gn_X2_turnPath_0 t_borrows t_lends t_via p1 (t_borrows ((t_via (v2).toNatClampNeg)).toNatClampNeg) (v3 + 1) (t_chosen ^^^ ((1 : Int32) <<< ((t_via (v2).toNatClampNeg) &&& 31))) t_room
          else none
        else
          if inb (t_via (v2).toNatClampNeg) 30 = true then
          gn_X2_turnPath_0 t_borrows t_lends t_via p1 (t_lends ((t_via (v2).toNatClampNeg)).toNatClampNeg) (v3 + 1) (t_chosen ^^^ ((1 : Int32) <<< ((t_via (v2).toNatClampNeg) &&& 31))) t_room
          else none
        else none
        else none
      else none := by
  rw [gn_X2_turnPath_0, lpC_eq]
  show lpO _ (bd_X2_turnPath_0 t_borrows t_lends t_via p1 v2 v3 t_chosen t_room) = _
  unfold bd_X2_turnPath_0
  simp only [lpO_ite, lpO_bind, lpO_none, lpO_l, lpO_r]
  try rfl
theorem gq_X2_turnPath_1 (t_borrows : Nat → Int32) (t_lends : Nat → Int32) (t_via : Nat → Int32) (p1 : Int32) (v2 : Int32) (t_chosen : Int32) (t_room : Nat → Int32) : gn_X2_turnPath_1 t_borrows t_lends t_via p1 v2 t_chosen t_room =
    if inb v2 10 = true then
    if inb v2 10 = true then
    if inb p1 10 = true then
    if inb p1 10 = true then
    some (t_chosen, upd (upd t_room (v2).toNatClampNeg ((t_room (v2).toNatClampNeg) - 1)) (p1).toNatClampNeg (((upd t_room (v2).toNatClampNeg ((t_room (v2).toNatClampNeg) - 1)) (p1).toNatClampNeg) - 1))
    else none
    else none
    else none
    else none := by
  rw [gn_X2_turnPath_1, lpC_eq]
  show lpO _ (bd_X2_turnPath_1 t_borrows t_lends t_via p1 v2 t_chosen t_room) = _
  unfold bd_X2_turnPath_1
  simp only [lpO_ite, lpO_bind, lpO_none, lpO_l, lpO_r]
  try rfl
noncomputable def dn_X2_turnPath (t_chosen : Int32) (t_borrows : Nat → Int32) (t_lends : Nat → Int32) (t_room : Nat → Int32) (t_via : Nat → Int32) (p1 : Int32) : Option (Int32 × (Nat → Int32)) :=
  gn_X2_turnPath_0 t_borrows t_lends t_via p1 p1 0 t_chosen t_room
noncomputable def bd_X2_gainOfYear_0 (t_going : Int32) (t_borrows : Nat → Int32) (t_lends : Nat → Int32) (t_worth : Nat → Int32) (p1 : Int32) (p2 : Int32) (v3 : Int32) (v4 : Int32) (t_chosen : Int32) (t_reach : Nat → Int32) (t_via : Nat → Int32) (t_room : Nat → Int32) : Option (((Int32 × Int32 × Int32 × (Nat → Int32) × (Nat → Int32) × (Nat → Int32))) ⊕ (Int32 × Int32 × (Nat → Int32) × (Nat → Int32) × (Nat → Int32))) :=
  if t_going ≤ v4 then
    some (.inr (v3, t_chosen, t_reach, t_via, t_room))
  else
    Option.bind (dn_X2_spread t_going t_chosen t_borrows t_lends t_reach t_room t_via t_worth p1 p2) fun q5 =>
    Option.bind (dn_X2_bestEnd q5.1 t_room p1 p2) fun q6 =>
    if q6 = (-1) then
      some (.inr (v3, t_chosen, q5.1, q5.2, t_room))
    else
      if inb q6 10 = true then
      Option.bind (dn_X2_turnPath t_chosen t_borrows t_lends t_room q5.2 q6) fun q9 =>
      some (.inl (v3 + (q5.1 (q6).toNatClampNeg), v4 + 1, q9.1, q5.1, q5.2, q9.2))
      else none
noncomputable def st_X2_gainOfYear (t_going : Int32) (t_borrows : Nat → Int32) (t_lends : Nat → Int32) (t_worth : Nat → Int32) (p1 : Int32) (p2 : Int32) : ((Int32 × Int32 × Int32 × (Nat → Int32) × (Nat → Int32) × (Nat → Int32))) → Option (((Int32 × Int32 × Int32 × (Nat → Int32) × (Nat → Int32) × (Nat → Int32))) ⊕ (Int32 × Int32 × (Nat → Int32) × (Nat → Int32) × (Nat → Int32))) := fun s => match s with
  | (v3, v4, t_chosen, t_reach, t_via, t_room) => bd_X2_gainOfYear_0 t_going t_borrows t_lends t_worth p1 p2 v3 v4 t_chosen t_reach t_via t_room
noncomputable def gn_X2_gainOfYear_0 (t_going : Int32) (t_borrows : Nat → Int32) (t_lends : Nat → Int32) (t_worth : Nat → Int32) (p1 : Int32) (p2 : Int32) (v3 : Int32) (v4 : Int32) (t_chosen : Int32) (t_reach : Nat → Int32) (t_via : Nat → Int32) (t_room : Nat → Int32) : Option (Int32 × Int32 × (Nat → Int32) × (Nat → Int32) × (Nat → Int32)) := lpC (st_X2_gainOfYear t_going t_borrows t_lends t_worth p1 p2) ((v3, v4, t_chosen, t_reach, t_via, t_room))
theorem gq_X2_gainOfYear_0 (t_going : Int32) (t_borrows : Nat → Int32) (t_lends : Nat → Int32) (t_worth : Nat → Int32) (p1 : Int32) (p2 : Int32) (v3 : Int32) (v4 : Int32) (t_chosen : Int32) (t_reach : Nat → Int32) (t_via : Nat → Int32) (t_room : Nat → Int32) : gn_X2_gainOfYear_0 t_going t_borrows t_lends t_worth p1 p2 v3 v4 t_chosen t_reach t_via t_room =
    if t_going ≤ v4 then
      some (v3, t_chosen, t_reach, t_via, t_room)
    else
      Option.bind (dn_X2_spread t_going t_chosen t_borrows t_lends t_reach t_room t_via t_worth p1 p2) fun q5 =>
      Option.bind (dn_X2_bestEnd q5.1 t_room p1 p2) fun q6 =>
      if q6 = (-1) then
        some (v3, t_chosen, q5.1, q5.2, t_room)
      else
        if inb q6 10 = true then
        Option.bind (dn_X2_turnPath t_chosen t_borrows t_lends t_room q5.2 q6) fun q9 =>
        gn_X2_gainOfYear_0 t_going t_borrows t_lends t_worth p1 p2 (v3 + (q5.1 (q6).toNatClampNeg)) (v4 + 1) q9.1 q5.1 q5.2 q9.2
        else none := by
  rw [gn_X2_gainOfYear_0, lpC_eq]
  show lpO _ (bd_X2_gainOfYear_0 t_going t_borrows t_lends t_worth p1 p2 v3 v4 t_chosen t_reach t_via t_room) = _
  unfold bd_X2_gainOfYear_0
  simp only [lpO_ite, lpO_bind, lpO_none, lpO_l, lpO_r]
  try rfl
noncomputable def dn_X2_gainOfYear (t_going : Int32) (t_chosen : Int32) (t_borrows : Nat → Int32) (t_lends : Nat → Int32) (t_reach : Nat → Int32) (t_room : Nat → Int32) (t_via : Nat → Int32) (t_wanted : Nat → Int32) (t_worth : Nat → Int32) (p1 : Int32) (p2 : Int32) : Option (Int32 × Int32 × (Nat → Int32) × (Nat → Int32) × (Nat → Int32)) :=
  Option.bind (dn_X2_allFit t_room t_wanted p1) fun q1 =>
  if q1 = true then
    Option.bind (dn_X2_sumOfGoing t_going t_worth) fun q3 =>
    some (q3, t_chosen, t_reach, t_via, t_room)
  else
    gn_X2_gainOfYear_0 t_going t_borrows t_lends t_worth p1 p2 0 0 0 t_reach t_via t_room
noncomputable def bd_X2_gainWithLimit_0 (p1_persons : Int32) (p1_deals : Int32) (p1_borrower : Nat → Int32) (p1_borrowerGain : Nat → Int32) (p1_byYear : Nat → Int32) (p1_either : Nat → Int32) (p1_lender : Nat → Int32) (p1_lenderGain : Nat → Int32) (p1_limit : Nat → Int32) (p1_year : Nat → Int32) (p2 : Int32) (p3 : Int32) (p4 : Int32) (v5 : Int32) (v6 : Int32) (v7 : Int32) (t_room : Nat → Int32) (t_going : Int32) (t_wanted : Nat → Int32) (t_lends : Nat → Int32) (t_borrows : Nat → Int32) (t_worth : Nat → Int32) (t_chosen : Int32) (t_reach : Nat → Int32) (t_via : Nat → Int32) : Option (((Int32 × Int32 × Int32 × (Nat → Int32) × Int32 × (Nat → Int32) × (Nat → Int32) × (Nat → Int32) × (Nat → Int32) × Int32 × (Nat → Int32) × (Nat → Int32)) ⊕ ((Int32 × Int32 × Int32 × (Nat → Int32) × Int32 × (Nat → Int32) × (Nat → Int32) × (Nat → Int32) × (Nat → Int32) × Int32 × (Nat → Int32) × (Nat → Int32)) ⊕ ((Int32 × Int32 × Int32 × (Nat → Int32) × Int32 × (Nat → Int32) × (Nat → Int32) × (Nat → Int32) × (Nat → Int32) × Int32 × (Nat → Int32) × (Nat → Int32))))) ⊕ (Int32 × (Nat → Int32) × Int32 × (Nat → Int32) × (Nat → Int32) × (Nat → Int32) × (Nat → Int32) × Int32 × (Nat → Int32) × (Nat → Int32))) :=
  if p1_deals < v7 then
    some (.inr (v5, t_room, t_going, t_wanted, t_lends, t_borrows, t_worth, t_chosen, t_reach, t_via))
  else
    if v7 = p1_deals then
      some (.inl (.inr (.inl (v5, v6, v7, t_room, t_going, t_wanted, t_lends, t_borrows, t_worth, t_chosen, t_reach, t_via))))
    else
      if inb v7 30 = true then
      if inb (p1_byYear (v7).toNatClampNeg) 30 = true then
      if inb v6 30 = true then
      if inb (p1_byYear (v6).toNatClampNeg) 30 = true then
      if (p1_year ((p1_byYear (v7).toNatClampNeg)).toNatClampNeg) = (p1_year ((p1_byYear (v6).toNatClampNeg)).toNatClampNeg) then
        some (.inl (.inl (v5, v6, v7 + 1, t_room, t_going, t_wanted, t_lends, t_borrows, t_worth, t_chosen, t_reach, t_via)))
      else
        some (.inl (.inr (.inl (v5, v6, v7, t_room, t_going, t_wanted, t_lends, t_borrows, t_worth, t_chosen, t_reach, t_via))))
      else none
      else none
      else none
      else none
noncomputable def bd_X2_gainWithLimit_1 (p1_persons : Int32) (p1_deals : Int32) (p1_borrower : Nat → Int32) (p1_borrowerGain : Nat → Int32) (p1_byYear : Nat → Int32) (p1_either : Nat → Int32) (p1_lender : Nat → Int32) (p1_lenderGain : Nat → Int32) (p1_limit : Nat → Int32) (p1_year : Nat → Int32) (p2 : Int32) (p3 : Int32) (p4 : Int32) (v5 : Int32) (v6 : Int32) (v7 : Int32) (t_room : Nat → Int32) (t_going : Int32) (t_wanted : Nat → Int32) (t_lends : Nat → Int32) (t_borrows : Nat → Int32) (t_worth : Nat → Int32) (t_chosen : Int32) (t_reach : Nat → Int32) (t_via : Nat → Int32) : Option (((Int32 × Int32 × Int32 × (Nat → Int32) × Int32 × (Nat → Int32) × (Nat → Int32) × (Nat → Int32) × (Nat → Int32) × Int32 × (Nat → Int32) × (Nat → Int32)) ⊕ ((Int32 × Int32 × Int32 × (Nat → Int32) × Int32 × (Nat → Int32) × (Nat → Int32) × (Nat → Int32) × (Nat → Int32) × Int32 × (Nat → Int32) × (Nat → Int32)) ⊕ ((Int32 × Int32 × Int32 × (Nat → Int32) × Int32 × (Nat → Int32) × (Nat → Int32) × (Nat → Int32) × (Nat → Int32) × Int32 × (Nat → Int32) × (Nat → Int32))))) ⊕ (Int32 × (Nat → Int32) × Int32 × (Nat → Int32) × (Nat → Int32) × (Nat → Int32) × (Nat → Int32) × Int32 × (Nat → Int32) × (Nat → Int32))) :=
  if p3 = (-1) then
    some (.inl (.inr (.inr ((v5, v6, v7, va_cpy p1_limit t_room (0 : Int32).toNatClampNeg (0 : Int32).toNatClampNeg (10 : Int32).toNatClampNeg, t_going, t_wanted, t_lends, t_borrows, t_worth, t_chosen, t_reach, t_via)))))
  else
    if inb p3 10 = true then
    some (.inl (.inr (.inr ((v5, v6, v7, upd (va_cpy p1_limit t_room (0 : Int32).toNatClampNeg (0 : Int32).toNatClampNeg (10 : Int32).toNatClampNeg) (p3).toNatClampNeg p4, t_going, t_wanted, t_lends, t_borrows, t_worth, t_chosen, t_reach, t_via)))))
    else none
noncomputable def bd_X2_gainWithLimit_2 (p1_persons : Int32) (p1_deals : Int32) (p1_borrower : Nat → Int32) (p1_borrowerGain : Nat → Int32) (p1_byYear : Nat → Int32) (p1_either : Nat → Int32) (p1_lender : Nat → Int32) (p1_lenderGain : Nat → Int32) (p1_limit : Nat → Int32) (p1_year : Nat → Int32) (p2 : Int32) (p3 : Int32) (p4 : Int32) (v5 : Int32) (v6 : Int32) (v7 : Int32) (t_room : Nat → Int32) (t_going : Int32) (t_wanted : Nat → Int32) (t_lends : Nat → Int32) (t_borrows : Nat → Int32) (t_worth : Nat → Int32) (t_chosen : Int32) (t_reach : Nat → Int32) (t_via : Nat → Int32) : Option (((Int32 × Int32 × Int32 × (Nat → Int32) × Int32 × (Nat → Int32) × (Nat → Int32) × (Nat → Int32) × (Nat → Int32) × Int32 × (Nat → Int32) × (Nat → Int32)) ⊕ ((Int32 × Int32 × Int32 × (Nat → Int32) × Int32 × (Nat → Int32) × (Nat → Int32) × (Nat → Int32) × (Nat → Int32) × Int32 × (Nat → Int32) × (Nat → Int32)) ⊕ ((Int32 × Int32 × Int32 × (Nat → Int32) × Int32 × (Nat → Int32) × (Nat → Int32) × (Nat → Int32) × (Nat → Int32) × Int32 × (Nat → Int32) × (Nat → Int32))))) ⊕ (Int32 × (Nat → Int32) × Int32 × (Nat → Int32) × (Nat → Int32) × (Nat → Int32) × (Nat → Int32) × Int32 × (Nat → Int32) × (Nat → Int32))) :=
  Option.bind (dn_X2_gather t_borrows t_lends t_wanted t_worth p1_borrower p1_borrowerGain p1_byYear p1_either p1_lender p1_lenderGain p2 v6 v7) fun q10 =>
  Option.bind (dn_X2_gainOfYear q10.1 t_chosen q10.2.2.2.1 q10.2.2.1 t_reach t_room t_via q10.2.1 q10.2.2.2.2 p1_persons p2) fun q11 =>
  some (.inl (.inl (v5 + q11.1, v7, v7 + 1, q11.2.2.2.2, q10.1, q10.2.1, q10.2.2.1, q10.2.2.2.1, q10.2.2.2.2, q11.2.1, q11.2.2.1, q11.2.2.2.1)))
noncomputable def st_X2_gainWithLimit (p1_persons : Int32) (p1_deals : Int32) (p1_borrower : Nat → Int32) (p1_borrowerGain : Nat → Int32) (p1_byYear : Nat → Int32) (p1_either : Nat → Int32) (p1_lender : Nat → Int32) (p1_lenderGain : Nat → Int32) (p1_limit : Nat → Int32) (p1_year : Nat → Int32) (p2 : Int32) (p3 : Int32) (p4 : Int32) : ((Int32 × Int32 × Int32 × (Nat → Int32) × Int32 × (Nat → Int32) × (Nat → Int32) × (Nat → Int32) × (Nat → Int32) × Int32 × (Nat → Int32) × (Nat → Int32)) ⊕ ((Int32 × Int32 × Int32 × (Nat → Int32) × Int32 × (Nat → Int32) × (Nat → Int32) × (Nat → Int32) × (Nat → Int32) × Int32 × (Nat → Int32) × (Nat → Int32)) ⊕ ((Int32 × Int32 × Int32 × (Nat → Int32) × Int32 × (Nat → Int32) × (Nat → Int32) × (Nat → Int32) × (Nat → Int32) × Int32 × (Nat → Int32) × (Nat → Int32))))) → Option (((Int32 × Int32 × Int32 × (Nat → Int32) × Int32 × (Nat → Int32) × (Nat → Int32) × (Nat → Int32) × (Nat → Int32) × Int32 × (Nat → Int32) × (Nat → Int32)) ⊕ ((Int32 × Int32 × Int32 × (Nat → Int32) × Int32 × (Nat → Int32) × (Nat → Int32) × (Nat → Int32) × (Nat → Int32) × Int32 × (Nat → Int32) × (Nat → Int32)) ⊕ ((Int32 × Int32 × Int32 × (Nat → Int32) × Int32 × (Nat → Int32) × (Nat → Int32) × (Nat → Int32) × (Nat → Int32) × Int32 × (Nat → Int32) × (Nat → Int32))))) ⊕ (Int32 × (Nat → Int32) × Int32 × (Nat → Int32) × (Nat → Int32) × (Nat → Int32) × (Nat → Int32) × Int32 × (Nat → Int32) × (Nat → Int32))) := fun s => match s with
  | .inl (v5, v6, v7, t_room, t_going, t_wanted, t_lends, t_borrows, t_worth, t_chosen, t_reach, t_via) => bd_X2_gainWithLimit_0 p1_persons p1_deals p1_borrower p1_borrowerGain p1_byYear p1_either p1_lender p1_lenderGain p1_limit p1_year p2 p3 p4 v5 v6 v7 t_room t_going t_wanted t_lends t_borrows t_worth t_chosen t_reach t_via
  | .inr (.inl (v5, v6, v7, t_room, t_going, t_wanted, t_lends, t_borrows, t_worth, t_chosen, t_reach, t_via)) => bd_X2_gainWithLimit_1 p1_persons p1_deals p1_borrower p1_borrowerGain p1_byYear p1_either p1_lender p1_lenderGain p1_limit p1_year p2 p3 p4 v5 v6 v7 t_room t_going t_wanted t_lends t_borrows t_worth t_chosen t_reach t_via
  | .inr (.inr ((v5, v6, v7, t_room, t_going, t_wanted, t_lends, t_borrows, t_worth, t_chosen, t_reach, t_via))) => bd_X2_gainWithLimit_2 p1_persons p1_deals p1_borrower p1_borrowerGain p1_byYear p1_either p1_lender p1_lenderGain p1_limit p1_year p2 p3 p4 v5 v6 v7 t_room t_going t_wanted t_lends t_borrows t_worth t_chosen t_reach t_via
noncomputable def gn_X2_gainWithLimit_0 (p1_persons : Int32) (p1_deals : Int32) (p1_borrower : Nat → Int32) (p1_borrowerGain : Nat → Int32) (p1_byYear : Nat → Int32) (p1_either : Nat → Int32) (p1_lender : Nat → Int32) (p1_lenderGain : Nat → Int32) (p1_limit : Nat → Int32) (p1_year : Nat → Int32) (p2 : Int32) (p3 : Int32) (p4 : Int32) (v5 : Int32) (v6 : Int32) (v7 : Int32) (t_room : Nat → Int32) (t_going : Int32) (t_wanted : Nat → Int32) (t_lends : Nat → Int32) (t_borrows : Nat → Int32) (t_worth : Nat → Int32) (t_chosen : Int32) (t_reach : Nat → Int32) (t_via : Nat → Int32) : Option (Int32 × (Nat → Int32) × Int32 × (Nat → Int32) × (Nat → Int32) × (Nat → Int32) × (Nat → Int32) × Int32 × (Nat → Int32) × (Nat → Int32)) := lpC (st_X2_gainWithLimit p1_persons p1_deals p1_borrower p1_borrowerGain p1_byYear p1_either p1_lender p1_lenderGain p1_limit p1_year p2 p3 p4) (.inl (v5, v6, v7, t_room, t_going, t_wanted, t_lends, t_borrows, t_worth, t_chosen, t_reach, t_via))
noncomputable def gn_X2_gainWithLimit_1 (p1_persons : Int32) (p1_deals : Int32) (p1_borrower : Nat → Int32) (p1_borrowerGain : Nat → Int32) (p1_byYear : Nat → Int32) (p1_either : Nat → Int32) (p1_lender : Nat → Int32) (p1_lenderGain : Nat → Int32) (p1_limit : Nat → Int32) (p1_year : Nat → Int32) (p2 : Int32) (p3 : Int32) (p4 : Int32) (v5 : Int32) (v6 : Int32) (v7 : Int32) (t_room : Nat → Int32) (t_going : Int32) (t_wanted : Nat → Int32) (t_lends : Nat → Int32) (t_borrows : Nat → Int32) (t_worth : Nat → Int32) (t_chosen : Int32) (t_reach : Nat → Int32) (t_via : Nat → Int32) : Option (Int32 × (Nat → Int32) × Int32 × (Nat → Int32) × (Nat → Int32) × (Nat → Int32) × (Nat → Int32) × Int32 × (Nat → Int32) × (Nat → Int32)) := lpC (st_X2_gainWithLimit p1_persons p1_deals p1_borrower p1_borrowerGain p1_byYear p1_either p1_lender p1_lenderGain p1_limit p1_year p2 p3 p4) (.inr (.inl (v5, v6, v7, t_room, t_going, t_wanted, t_lends, t_borrows, t_worth, t_chosen, t_reach, t_via)))
noncomputable def gn_X2_gainWithLimit_2 (p1_persons : Int32) (p1_deals : Int32) (p1_borrower : Nat → Int32) (p1_borrowerGain : Nat → Int32) (p1_byYear : Nat → Int32) (p1_either : Nat → Int32) (p1_lender : Nat → Int32) (p1_lenderGain : Nat → Int32) (p1_limit : Nat → Int32) (p1_year : Nat → Int32) (p2 : Int32) (p3 : Int32) (p4 : Int32) (v5 : Int32) (v6 : Int32) (v7 : Int32) (t_room : Nat → Int32) (t_going : Int32) (t_wanted : Nat → Int32) (t_lends : Nat → Int32) (t_borrows : Nat → Int32) (t_worth : Nat → Int32) (t_chosen : Int32) (t_reach : Nat → Int32) (t_via : Nat → Int32) : Option (Int32 × (Nat → Int32) × Int32 × (Nat → Int32) × (Nat → Int32) × (Nat → Int32) × (Nat → Int32) × Int32 × (Nat → Int32) × (Nat → Int32)) := lpC (st_X2_gainWithLimit p1_persons p1_deals p1_borrower p1_borrowerGain p1_byYear p1_either p1_lender p1_lenderGain p1_limit p1_year p2 p3 p4) (.inr (.inr ((v5, v6, v7, t_room, t_going, t_wanted, t_lends, t_borrows, t_worth, t_chosen, t_reach, t_via))))
theorem gq_X2_gainWithLimit_0 (p1_persons : Int32) (p1_deals : Int32) (p1_borrower : Nat → Int32) (p1_borrowerGain : Nat → Int32) (p1_byYear : Nat → Int32) (p1_either : Nat → Int32) (p1_lender : Nat → Int32) (p1_lenderGain : Nat → Int32) (p1_limit : Nat → Int32) (p1_year : Nat → Int32) (p2 : Int32) (p3 : Int32) (p4 : Int32) (v5 : Int32) (v6 : Int32) (v7 : Int32) (t_room : Nat → Int32) (t_going : Int32) (t_wanted : Nat → Int32) (t_lends : Nat → Int32) (t_borrows : Nat → Int32) (t_worth : Nat → Int32) (t_chosen : Int32) (t_reach : Nat → Int32) (t_via : Nat → Int32) : gn_X2_gainWithLimit_0 p1_persons p1_deals p1_borrower p1_borrowerGain p1_byYear p1_either p1_lender p1_lenderGain p1_limit p1_year p2 p3 p4 v5 v6 v7 t_room t_going t_wanted t_lends t_borrows t_worth t_chosen t_reach t_via =
    if p1_deals < v7 then
      some (v5, t_room, t_going, t_wanted, t_lends, t_borrows, t_worth, t_chosen, t_reach, t_via)
    else
      if v7 = p1_deals then
        gn_X2_gainWithLimit_1 p1_persons p1_deals p1_borrower p1_borrowerGain p1_byYear p1_either p1_lender p1_lenderGain p1_limit p1_year p2 p3 p4 v5 v6 v7 t_room t_going t_wanted t_lends t_borrows t_worth t_chosen t_reach t_via
      else
        if inb v7 30 = true then
        if inb (p1_byYear (v7).toNatClampNeg) 30 = true then
        if inb v6 30 = true then
        if inb (p1_byYear (v6).toNatClampNeg) 30 = true then
        if (p1_year ((p1_byYear (v7).toNatClampNeg)).toNatClampNeg) = (p1_year ((p1_byYear (v6).toNatClampNeg)).toNatClampNeg) then
          gn_X2_gainWithLimit_0 p1_persons p1_deals p1_borrower p1_borrowerGain p1_byYear p1_either p1_lender p1_lenderGain p1_limit p1_year p2 p3 p4 v5 v6 (v7 + 1) t_room t_going t_wanted t_lends t_borrows t_worth t_chosen t_reach t_via
        else
          gn_X2_gainWithLimit_1 p1_persons p1_deals p1_borrower p1_borrowerGain p1_byYear p1_either p1_lender p1_lenderGain p1_limit p1_year p2 p3 p4 v5 v6 v7 t_room t_going t_wanted t_lends t_borrows t_worth t_chosen t_reach t_via
        else none
        else none
        else none
        else none := by
  rw [gn_X2_gainWithLimit_0, lpC_eq]
  show lpO _ (bd_X2_gainWithLimit_0 p1_persons p1_deals p1_borrower p1_borrowerGain p1_byYear p1_either p1_lender p1_lenderGain p1_limit p1_year p2 p3 p4 v5 v6 v7 t_room t_going t_wanted t_lends t_borrows t_worth t_chosen t_reach t_via) = _
  unfold bd_X2_gainWithLimit_0
  simp only [lpO_ite, lpO_bind, lpO_none, lpO_l, lpO_r]
  try rfl
theorem gq_X2_gainWithLimit_1 (p1_persons : Int32) (p1_deals : Int32) (p1_borrower : Nat → Int32) (p1_borrowerGain : Nat → Int32) (p1_byYear : Nat → Int32) (p1_either : Nat → Int32) (p1_lender : Nat → Int32) (p1_lenderGain : Nat → Int32) (p1_limit : Nat → Int32) (p1_year : Nat → Int32) (p2 : Int32) (p3 : Int32) (p4 : Int32) (v5 : Int32) (v6 : Int32) (v7 : Int32) (t_room : Nat → Int32) (t_going : Int32) (t_wanted : Nat → Int32) (t_lends : Nat → Int32) (t_borrows : Nat → Int32) (t_worth : Nat → Int32) (t_chosen : Int32) (t_reach : Nat → Int32) (t_via : Nat → Int32) : gn_X2_gainWithLimit_1 p1_persons p1_deals p1_borrower p1_borrowerGain p1_byYear p1_either p1_lender p1_lenderGain p1_limit p1_year p2 p3 p4 v5 v6 v7 t_room t_going t_wanted t_lends t_borrows t_worth t_chosen t_reach t_via =
    if p3 = (-1) then
      gn_X2_gainWithLimit_2 p1_persons p1_deals p1_borrower p1_borrowerGain p1_byYear p1_either p1_lender p1_lenderGain p1_limit p1_year p2 p3 p4 v5 v6 v7 (va_cpy p1_limit t_room (0 : Int32).toNatClampNeg (0 : Int32).toNatClampNeg (10 : Int32).toNatClampNeg) t_going t_wanted t_lends t_borrows t_worth t_chosen t_reach t_via
    else
      if inb p3 10 = true then
      gn_X2_gainWithLimit_2 p1_persons p1_deals p1_borrower p1_borrowerGain p1_byYear p1_either p1_lender p1_lenderGain p1_limit p1_year p2 p3 p4 v5 v6 v7 (upd (va_cpy p1_limit t_room (0 : Int32).toNatClampNeg (0 : Int32).toNatClampNeg (10 : Int32).toNatClampNeg) (p3).toNatClampNeg p4) t_going t_wanted t_lends t_borrows t_worth t_chosen t_reach t_via
      else none := by
  rw [gn_X2_gainWithLimit_1, lpC_eq]
  show lpO _ (bd_X2_gainWithLimit_1 p1_persons p1_deals p1_borrower p1_borrowerGain p1_byYear p1_either p1_lender p1_lenderGain p1_limit p1_year p2 p3 p4 v5 v6 v7 t_room t_going t_wanted t_lends t_borrows t_worth t_chosen t_reach t_via) = _
  unfold bd_X2_gainWithLimit_1
  simp only [lpO_ite, lpO_bind, lpO_none, lpO_l, lpO_r]
  try rfl
theorem gq_X2_gainWithLimit_2 (p1_persons : Int32) (p1_deals : Int32) (p1_borrower : Nat → Int32) (p1_borrowerGain : Nat → Int32) (p1_byYear : Nat → Int32) (p1_either : Nat → Int32) (p1_lender : Nat → Int32) (p1_lenderGain : Nat → Int32) (p1_limit : Nat → Int32) (p1_year : Nat → Int32) (p2 : Int32) (p3 : Int32) (p4 : Int32) (v5 : Int32) (v6 : Int32) (v7 : Int32) (t_room : Nat → Int32) (t_going : Int32) (t_wanted : Nat → Int32) (t_lends : Nat → Int32) (t_borrows : Nat → Int32) (t_worth : Nat → Int32) (t_chosen : Int32) (t_reach : Nat → Int32) (t_via : Nat → Int32) : gn_X2_gainWithLimit_2 p1_persons p1_deals p1_borrower p1_borrowerGain p1_byYear p1_either p1_lender p1_lenderGain p1_limit p1_year p2 p3 p4 v5 v6 v7 t_room t_going t_wanted t_lends t_borrows t_worth t_chosen t_reach t_via =
    Option.bind (dn_X2_gather t_borrows t_lends t_wanted t_worth p1_borrower p1_borrowerGain p1_byYear p1_either p1_lender p1_lenderGain p2 v6 v7) fun q10 =>
    Option.bind (dn_X2_gainOfYear q10.1 t_chosen q10.2.2.2.1 q10.2.2.1 t_reach t_room t_via q10.2.1 q10.2.2.2.2 p1_persons p2) fun q11 =>
    gn_X2_gainWithLimit_0 p1_persons p1_deals p1_borrower p1_borrowerGain p1_byYear p1_either p1_lender p1_lenderGain p1_limit p1_year p2 p3 p4 (v5 + q11.1) v7 (v7 + 1) q11.2.2.2.2 q10.1 q10.2.1 q10.2.2.1 q10.2.2.2.1 q10.2.2.2.2 q11.2.1 q11.2.2.1 q11.2.2.2.1 := by
  rw [gn_X2_gainWithLimit_2, lpC_eq]
  show lpO _ (bd_X2_gainWithLimit_2 p1_persons p1_deals p1_borrower p1_borrowerGain p1_byYear p1_either p1_lender p1_lenderGain p1_limit p1_year p2 p3 p4 v5 v6 v7 t_room t_going t_wanted t_lends t_borrows t_worth t_chosen t_reach t_via) = _
  unfold bd_X2_gainWithLimit_2
  simp only [lpO_ite, lpO_bind, lpO_none, lpO_l, lpO_r]
  try rfl
noncomputable def dn_X2_gainWithLimit (t_going : Int32) (t_chosen : Int32) (t_borrows : Nat → Int32) (t_lends : Nat → Int32) (t_reach : Nat → Int32) (t_room : Nat → Int32) (t_via : Nat → Int32) (t_wanted : Nat → Int32) (t_worth : Nat → Int32) (p1_persons : Int32) (p1_deals : Int32) (p1_borrower : Nat → Int32) (p1_borrowerGain : Nat → Int32) (p1_byYear : Nat → Int32) (p1_either : Nat → Int32) (p1_lender : Nat → Int32) (p1_lenderGain : Nat → Int32) (p1_limit : Nat → Int32) (p1_year : Nat → Int32) (p2 : Int32) (p3 : Int32) (p4 : Int32) : Option (Int32 × (Nat → Int32) × Int32 × (Nat → Int32) × (Nat → Int32) × (Nat → Int32) × (Nat → Int32) × Int32 × (Nat → Int32) × (Nat → Int32)) :=
  gn_X2_gainWithLimit_0 p1_persons p1_deals p1_borrower p1_borrowerGain p1_byYear p1_either p1_lender p1_lenderGain p1_limit p1_year p2 p3 p4 0 0 1 t_room t_going t_wanted t_lends t_borrows t_worth t_chosen t_reach t_via
noncomputable def dn_X2_gainOf (t_going : Int32) (t_chosen : Int32) (t_borrows : Nat → Int32) (t_lends : Nat → Int32) (t_reach : Nat → Int32) (t_room : Nat → Int32) (t_via : Nat → Int32) (t_wanted : Nat → Int32) (t_worth : Nat → Int32) (p1_persons : Int32) (p1_deals : Int32) (p1_borrower : Nat → Int32) (p1_borrowerGain : Nat → Int32) (p1_byYear : Nat → Int32) (p1_either : Nat → Int32) (p1_lender : Nat → Int32) (p1_lenderGain : Nat → Int32) (p1_limit : Nat → Int32) (p1_memo_gains : Nat → Int32) (p1_year : Nat → Int32) (p2 : Int32) : Option (Int32 × (Nat → Int32) × Int32 × (Nat → Int32) × (Nat → Int32) × (Nat → Int32) × (Nat → Int32) × Int32 × (Nat → Int32) × (Nat → Int32) × (Nat → Int32)) :=
  if inb p2 1024 = true then
  if (p1_memo_gains (p2).toNatClampNeg) = (-1) then
    Option.bind (dn_X2_gainWithLimit t_going t_chosen t_borrows t_lends t_reach t_room t_via t_wanted t_worth p1_persons p1_deals p1_borrower p1_borrowerGain p1_byYear p1_either p1_lender p1_lenderGain p1_limit p1_year p2 (-1) 0) fun q4 =>
    if inb p2 1024 = true then
    if inb p2 1024 = true then
    some ((upd p1_memo_gains (p2).toNatClampNeg q4.1) (p2).toNatClampNeg, q4.2.1, q4.2.2.1, q4.2.2.2.1, q4.2.2.2.2.1, q4.2.2.2.2.2.1, q4.2.2.2.2.2.2.1, q4.2.2.2.2.2.2.2.1, q4.2.2.2.2.2.2.2.2.1, q4.2.2.2.2.2.2.2.2.2, upd p1_memo_gains (p2).toNatClampNeg q4.1)
    else none
    else none
  else
    if inb p2 1024 = true then
    some (p1_memo_gains (p2).toNatClampNeg, t_room, t_going, t_wanted, t_lends, t_borrows, t_worth, t_chosen, t_reach, t_via, p1_memo_gains)
    else none
  else none
noncomputable def bd_X1_addUp_0 (p1_deals : Int32) (p1_borrower : Nat → Int32) (p1_borrowerGain : Nat → Int32) (p1_either : Nat → Int32) (p1_lender : Nat → Int32) (p1_lenderGain : Nat → Int32) (p1_year : Nat → Int32) (p2 : Int32) (p3 : Int32) (v4 : Int32) (p4 : Nat → Int32) : Option (((Int32 × (Nat → Int32)) ⊕ ((Int32 × (Nat → Int32)))) ⊕ ((Nat → Int32))) :=
  if p1_deals ≤ v4 then
    some (.inl (.inr ((0, p4))))
  else
    Option.bind (dn_X10_goesBy p1_borrower p1_either p1_lender v4 p3) fun q3 =>
    if q3 = true then
      if inb v4 30 = true then
      if inb ((p1_year (v4).toNatClampNeg) + 1) 61 = true then
      Option.bind (dn_X10_shareOf p1_borrower p1_borrowerGain p1_lender p1_lenderGain v4 p2) fun q7 =>
      if inb ((p1_year (v4).toNatClampNeg) + 1) 61 = true then
      some (.inl (.inl (v4 + 1, upd p4 ((p1_year (v4).toNatClampNeg) + 1).toNatClampNeg ((p4 (((p1_year (v4).toNatClampNeg) + 1)).toNatClampNeg) + q7))))
      else none
      else none
      else none
    else
      some (.inl (.inl (v4 + 1, p4)))
noncomputable def bd_X1_addUp_1 (p1_deals : Int32) (p1_borrower : Nat → Int32) (p1_borrowerGain : Nat → Int32) (p1_either : Nat → Int32) (p1_lender : Nat → Int32) (p1_lenderGain : Nat → Int32) (p1_year : Nat → Int32) (p2 : Int32) (p3 : Int32) (v4 : Int32) (p4 : Nat → Int32) : Option (((Int32 × (Nat → Int32)) ⊕ ((Int32 × (Nat → Int32)))) ⊕ ((Nat → Int32))) :=
  if (60 : Int32) ≤ v4 then
    some (.inr p4)
  else
    if inb (v4 + 1) 61 = true then
    if inb v4 61 = true then
    if inb (v4 + 1) 61 = true then
    some (.inl (.inr ((v4 + 1, upd p4 (v4 + 1).toNatClampNeg ((p4 ((v4 + 1)).toNatClampNeg) + (p4 (v4).toNatClampNeg))))))
    else none
    else none
    else none
noncomputable def st_X1_addUp (p1_deals : Int32) (p1_borrower : Nat → Int32) (p1_borrowerGain : Nat → Int32) (p1_either : Nat → Int32) (p1_lender : Nat → Int32) (p1_lenderGain : Nat → Int32) (p1_year : Nat → Int32) (p2 : Int32) (p3 : Int32) : ((Int32 × (Nat → Int32)) ⊕ ((Int32 × (Nat → Int32)))) → Option (((Int32 × (Nat → Int32)) ⊕ ((Int32 × (Nat → Int32)))) ⊕ ((Nat → Int32))) := fun s => match s with
  | .inl (v4, p4) => bd_X1_addUp_0 p1_deals p1_borrower p1_borrowerGain p1_either p1_lender p1_lenderGain p1_year p2 p3 v4 p4
  | .inr ((v4, p4)) => bd_X1_addUp_1 p1_deals p1_borrower p1_borrowerGain p1_either p1_lender p1_lenderGain p1_year p2 p3 v4 p4
noncomputable def gn_X1_addUp_0 (p1_deals : Int32) (p1_borrower : Nat → Int32) (p1_borrowerGain : Nat → Int32) (p1_either : Nat → Int32) (p1_lender : Nat → Int32) (p1_lenderGain : Nat → Int32) (p1_year : Nat → Int32) (p2 : Int32) (p3 : Int32) (v4 : Int32) (p4 : Nat → Int32) : Option ((Nat → Int32)) := lpC (st_X1_addUp p1_deals p1_borrower p1_borrowerGain p1_either p1_lender p1_lenderGain p1_year p2 p3) (.inl (v4, p4))
noncomputable def gn_X1_addUp_1 (p1_deals : Int32) (p1_borrower : Nat → Int32) (p1_borrowerGain : Nat → Int32) (p1_either : Nat → Int32) (p1_lender : Nat → Int32) (p1_lenderGain : Nat → Int32) (p1_year : Nat → Int32) (p2 : Int32) (p3 : Int32) (v4 : Int32) (p4 : Nat → Int32) : Option ((Nat → Int32)) := lpC (st_X1_addUp p1_deals p1_borrower p1_borrowerGain p1_either p1_lender p1_lenderGain p1_year p2 p3) (.inr ((v4, p4)))
theorem gq_X1_addUp_0 (p1_deals : Int32) (p1_borrower : Nat → Int32) (p1_borrowerGain : Nat → Int32) (p1_either : Nat → Int32) (p1_lender : Nat → Int32) (p1_lenderGain : Nat → Int32) (p1_year : Nat → Int32) (p2 : Int32) (p3 : Int32) (v4 : Int32) (p4 : Nat → Int32) : gn_X1_addUp_0 p1_deals p1_borrower p1_borrowerGain p1_either p1_lender p1_lenderGain p1_year p2 p3 v4 p4 =
    if p1_deals ≤ v4 then
      gn_X1_addUp_1 p1_deals p1_borrower p1_borrowerGain p1_either p1_lender p1_lenderGain p1_year p2 p3 0 p4
    else
      Option.bind (dn_X10_goesBy p1_borrower p1_either p1_lender v4 p3) fun q3 =>
      if q3 = true then
        if inb v4 30 = true then
        if inb ((p1_year (v4).toNatClampNeg) + 1) 61 = true then
        Option.bind (dn_X10_shareOf p1_borrower p1_borrowerGain p1_lender p1_lenderGain v4 p2) fun q7 =>
        if inb ((p1_year (v4).toNatClampNeg) + 1) 61 = true then
        gn_X1_addUp_0 p1_deals p1_borrower p1_borrowerGain p1_either p1_lender p1_lenderGain p1_year p2 p3 (v4 + 1) (upd p4 ((p1_year (v4).toNatClampNeg) + 1).toNatClampNeg ((p4 (((p1_year (v4).toNatClampNeg) + 1)).toNatClampNeg) + q7))
        else none
        else none
        else none
      else
        gn_X1_addUp_0 p1_deals p1_borrower p1_borrowerGain p1_either p1_lender p1_lenderGain p1_year p2 p3 (v4 + 1) p4 := by
  rw [gn_X1_addUp_0, lpC_eq]
  show lpO _ (bd_X1_addUp_0 p1_deals p1_borrower p1_borrowerGain p1_either p1_lender p1_lenderGain p1_year p2 p3 v4 p4) = _
  unfold bd_X1_addUp_0
  simp only [lpO_ite, lpO_bind, lpO_none, lpO_l, lpO_r]
  try rfl
theorem gq_X1_addUp_1 (p1_deals : Int32) (p1_borrower : Nat → Int32) (p1_borrowerGain : Nat → Int32) (p1_either : Nat → Int32) (p1_lender : Nat → Int32) (p1_lenderGain : Nat → Int32) (p1_year : Nat → Int32) (p2 : Int32) (p3 : Int32) (v4 : Int32) (p4 : Nat → Int32) : gn_X1_addUp_1 p1_deals p1_borrower p1_borrowerGain p1_either p1_lender p1_lenderGain p1_year p2 p3 v4 p4 =
    if (60 : Int32) ≤ v4 then
      some p4
    else
      if inb (v4 + 1) 61 = true then
      if inb v4 61 = true then
      if inb (v4 + 1) 61 = true then
      gn_X1_addUp_1 p1_deals p1_borrower p1_borrowerGain p1_either p1_lender p1_lenderGain p1_year p2 p3 (v4 + 1) (upd p4 (v4 + 1).toNatClampNeg ((p4 ((v4 + 1)).toNatClampNeg) + (p4 (v4).toNatClampNeg)))
      else none
      else none
      else none := by
  rw [gn_X1_addUp_1, lpC_eq]
  show lpO _ (bd_X1_addUp_1 p1_deals p1_borrower p1_borrowerGain p1_either p1_lender p1_lenderGain p1_year p2 p3 v4 p4) = _
  unfold bd_X1_addUp_1
  simp only [lpO_ite, lpO_bind, lpO_none, lpO_l, lpO_r]
  try rfl
noncomputable def dn_X1_addUp (p1_deals : Int32) (p1_borrower : Nat → Int32) (p1_borrowerGain : Nat → Int32) (p1_either : Nat → Int32) (p1_lender : Nat → Int32) (p1_lenderGain : Nat → Int32) (p1_year : Nat → Int32) (p4 : Nat → Int32) (p2 : Int32) (p3 : Int32) : Option ((Nat → Int32)) :=
  gn_X1_addUp_0 p1_deals p1_borrower p1_borrowerGain p1_either p1_lender p1_lenderGain p1_year p2 p3 0 (jfill 61 p4 0)
noncomputable def dn_X1_freeAgain (t_boundYears : Int32) (p1 : Int32) : Option (Int32) :=
  some (if (p1 + t_boundYears) < (60 : Int32) then (p1 + t_boundYears) else 60)
noncomputable def dn_X1_byBinding (t_boundYears : Int32) (t_most : Nat → Int32) (p1 : Nat → Int32) (p2 : Int32) : Option (Int32) :=
  Option.bind (dn_X1_freeAgain t_boundYears p2) fun q1 =>
  if inb q1 61 = true then
  if inb p2 61 = true then
  if inb q1 61 = true then
  some (((p1 (q1).toNatClampNeg) - (p1 (p2).toNatClampNeg)) + (t_most (q1).toNatClampNeg))
  else none
  else none
  else none
noncomputable def bd_X1_reckon_0 (p1_deals : Int32) (p1_borrower : Nat → Int32) (p1_borrowerGain : Nat → Int32) (p1_either : Nat → Int32) (p1_lender : Nat → Int32) (p1_lenderGain : Nat → Int32) (p1_year : Nat → Int32) (p2 : Int32) (p3 : Int32) (k1 : Int32) (t_boundYears : Int32) (t_lending : Nat → Int32) (t_borrowing : Nat → Int32) (t_most : Nat → Int32) : Option (((Int32 × Int32 × (Nat → Int32) × (Nat → Int32) × (Nat → Int32)) ⊕ ((Int32 × Int32 × (Nat → Int32) × (Nat → Int32) × (Nat → Int32)))) ⊕ (Int32 × (Nat → Int32) × (Nat → Int32) × (Nat → Int32))) :=
  Option.bind (dn_X1_addUp p1_deals p1_borrower p1_borrowerGain p1_either p1_lender p1_lenderGain p1_year t_lending p2 (p3 ||| ((1 : Int32) <<< (p2 &&& 31)))) fun q2 =>
  Option.bind (dn_X1_addUp p1_deals p1_borrower p1_borrowerGain p1_either p1_lender p1_lenderGain p1_year t_borrowing p2 (p3 &&& (((1 : Int32) <<< (p2 &&& 31)) ^^^ (-1)))) fun q3 =>
  some (.inl (.inr ((59, k1, q2, q3, upd t_most (60 : Int32).toNatClampNeg 0))))
noncomputable def bd_X1_reckon_1 (p1_deals : Int32) (p1_borrower : Nat → Int32) (p1_borrowerGain : Nat → Int32) (p1_either : Nat → Int32) (p1_lender : Nat → Int32) (p1_lenderGain : Nat → Int32) (p1_year : Nat → Int32) (p2 : Int32) (p3 : Int32) (v5 : Int32) (t_boundYears : Int32) (t_lending : Nat → Int32) (t_borrowing : Nat → Int32) (t_most : Nat → Int32) : Option (((Int32 × Int32 × (Nat → Int32) × (Nat → Int32) × (Nat → Int32)) ⊕ ((Int32 × Int32 × (Nat → Int32) × (Nat → Int32) × (Nat → Int32)))) ⊕ (Int32 × (Nat → Int32) × (Nat → Int32) × (Nat → Int32))) :=
  if v5 < 0 then
    some (.inr (t_boundYears, t_lending, t_borrowing, t_most))
  else
    if inb (v5 + 1) 61 = true then
    Option.bind (dn_X1_byBinding t_boundYears t_most t_lending v5) fun q6 =>
    Option.bind (dn_X1_byBinding t_boundYears t_most t_borrowing v5) fun q7 =>
    if inb v5 61 = true then
    some (.inl (.inr ((v5 + (-1), t_boundYears, t_lending, t_borrowing, upd t_most (v5).toNatClampNeg (if (t_most ((v5 + 1)).toNatClampNeg) < (if q6 < q7 then q7 else q6) then (if q6 < q7 then q7 else q6) else (t_most ((v5 + 1)).toNatClampNeg))))))
    else none
    else none
noncomputable def st_X1_reckon (p1_deals : Int32) (p1_borrower : Nat → Int32) (p1_borrowerGain : Nat → Int32) (p1_either : Nat → Int32) (p1_lender : Nat → Int32) (p1_lenderGain : Nat → Int32) (p1_year : Nat → Int32) (p2 : Int32) (p3 : Int32) : ((Int32 × Int32 × (Nat → Int32) × (Nat → Int32) × (Nat → Int32)) ⊕ ((Int32 × Int32 × (Nat → Int32) × (Nat → Int32) × (Nat → Int32)))) → Option (((Int32 × Int32 × (Nat → Int32) × (Nat → Int32) × (Nat → Int32)) ⊕ ((Int32 × Int32 × (Nat → Int32) × (Nat → Int32) × (Nat → Int32)))) ⊕ (Int32 × (Nat → Int32) × (Nat → Int32) × (Nat → Int32))) := fun s => match s with
  | .inl (k1, t_boundYears, t_lending, t_borrowing, t_most) => bd_X1_reckon_0 p1_deals p1_borrower p1_borrowerGain p1_either p1_lender p1_lenderGain p1_year p2 p3 k1 t_boundYears t_lending t_borrowing t_most
  | .inr ((v5, t_boundYears, t_lending, t_borrowing, t_most)) => bd_X1_reckon_1 p1_deals p1_borrower p1_borrowerGain p1_either p1_lender p1_lenderGain p1_year p2 p3 v5 t_boundYears t_lending t_borrowing t_most
noncomputable def gn_X1_reckon_0 (p1_deals : Int32) (p1_borrower : Nat → Int32) (p1_borrowerGain : Nat → Int32) (p1_either : Nat → Int32) (p1_lender : Nat → Int32) (p1_lenderGain : Nat → Int32) (p1_year : Nat → Int32) (p2 : Int32) (p3 : Int32) (k1 : Int32) (t_boundYears : Int32) (t_lending : Nat → Int32) (t_borrowing : Nat → Int32) (t_most : Nat → Int32) : Option (Int32 × (Nat → Int32) × (Nat → Int32) × (Nat → Int32)) := lpC (st_X1_reckon p1_deals p1_borrower p1_borrowerGain p1_either p1_lender p1_lenderGain p1_year p2 p3) (.inl (k1, t_boundYears, t_lending, t_borrowing, t_most))
noncomputable def gn_X1_reckon_1 (p1_deals : Int32) (p1_borrower : Nat → Int32) (p1_borrowerGain : Nat → Int32) (p1_either : Nat → Int32) (p1_lender : Nat → Int32) (p1_lenderGain : Nat → Int32) (p1_year : Nat → Int32) (p2 : Int32) (p3 : Int32) (v5 : Int32) (t_boundYears : Int32) (t_lending : Nat → Int32) (t_borrowing : Nat → Int32) (t_most : Nat → Int32) : Option (Int32 × (Nat → Int32) × (Nat → Int32) × (Nat → Int32)) := lpC (st_X1_reckon p1_deals p1_borrower p1_borrowerGain p1_either p1_lender p1_lenderGain p1_year p2 p3) (.inr ((v5, t_boundYears, t_lending, t_borrowing, t_most)))
theorem gq_X1_reckon_0 (p1_deals : Int32) (p1_borrower : Nat → Int32) (p1_borrowerGain : Nat → Int32) (p1_either : Nat → Int32) (p1_lender : Nat → Int32) (p1_lenderGain : Nat → Int32) (p1_year : Nat → Int32) (p2 : Int32) (p3 : Int32) (k1 : Int32) (t_boundYears : Int32) (t_lending : Nat → Int32) (t_borrowing : Nat → Int32) (t_most : Nat → Int32) : gn_X1_reckon_0 p1_deals p1_borrower p1_borrowerGain p1_either p1_lender p1_lenderGain p1_year p2 p3 k1 t_boundYears t_lending t_borrowing t_most =
    Option.bind (dn_X1_addUp p1_deals p1_borrower p1_borrowerGain p1_either p1_lender p1_lenderGain p1_year t_lending p2 (p3 ||| ((1 : Int32) <<< (p2 &&& 31)))) fun q2 =>
    Option.bind (dn_X1_addUp p1_deals p1_borrower p1_borrowerGain p1_either p1_lender p1_lenderGain p1_year t_borrowing p2 (p3 &&& (((1 : Int32) <<< (p2 &&& 31)) ^^^ (-1)))) fun q3 =>
    gn_X1_reckon_1 p1_deals p1_borrower p1_borrowerGain p1_either p1_lender p1_lenderGain p1_year p2 p3 59 k1 q2 q3 (upd t_most (60 : Int32).toNatClampNeg 0) := by
  rw [gn_X1_reckon_0, lpC_eq]
  show lpO _ (bd_X1_reckon_0 p1_deals p1_borrower p1_borrowerGain p1_either p1_lender p1_lenderGain p1_year p2 p3 k1 t_boundYears t_lending t_borrowing t_most) = _
  unfold bd_X1_reckon_0
  simp only [lpO_ite, lpO_bind, lpO_none, lpO_l, lpO_r]
  try rfl
theorem gq_X1_reckon_1 (p1_deals : Int32) (p1_borrower : Nat → Int32) (p1_borrowerGain : Nat → Int32) (p1_either : Nat → Int32) (p1_lender : Nat → Int32) (p1_lenderGain : Nat → Int32) (p1_year : Nat → Int32) (p2 : Int32) (p3 : Int32) (v5 : Int32) (t_boundYears : Int32) (t_lending : Nat → Int32) (t_borrowing : Nat → Int32) (t_most : Nat → Int32) : gn_X1_reckon_1 p1_deals p1_borrower p1_borrowerGain p1_either p1_lender p1_lenderGain p1_year p2 p3 v5 t_boundYears t_lending t_borrowing t_most =
    if v5 < 0 then
      some (t_boundYears, t_lending, t_borrowing, t_most)
    else
      if inb (v5 + 1) 61 = true then
      Option.bind (dn_X1_byBinding t_boundYears t_most t_lending v5) fun q6 =>
      Option.bind (dn_X1_byBinding t_boundYears t_most t_borrowing v5) fun q7 =>
      if inb v5 61 = true then
      gn_X1_reckon_1 p1_deals p1_borrower p1_borrowerGain p1_either p1_lender p1_lenderGain p1_year p2 p3 (v5 + (-1)) t_boundYears t_lending t_borrowing (upd t_most (v5).toNatClampNeg (if (t_most ((v5 + 1)).toNatClampNeg) < (if q6 < q7 then q7 else q6) then (if q6 < q7 then q7 else q6) else (t_most ((v5 + 1)).toNatClampNeg)))
      else none
      else none := by
  rw [gn_X1_reckon_1, lpC_eq]
  show lpO _ (bd_X1_reckon_1 p1_deals p1_borrower p1_borrowerGain p1_either p1_lender p1_lenderGain p1_year p2 p3 v5 t_boundYears t_lending t_borrowing t_most) = _
  unfold bd_X1_reckon_1
  simp only [lpO_ite, lpO_bind, lpO_none, lpO_l, lpO_r]
  try rfl
noncomputable def dn_X1_reckon (t_boundYears : Int32) (t_borrowing : Nat → Int32) (t_lending : Nat → Int32) (t_most : Nat → Int32) (p1_deals : Int32) (p1_borrower : Nat → Int32) (p1_borrowerGain : Nat → Int32) (p1_either : Nat → Int32) (p1_lender : Nat → Int32) (p1_lenderGain : Nat → Int32) (p1_year : Nat → Int32) (p2 : Int32) (p3 : Int32) (p4 : Int32) : Option (Int32 × (Nat → Int32) × (Nat → Int32) × (Nat → Int32)) :=
  if p4 = 0 then
    gn_X1_reckon_0 p1_deals p1_borrower p1_borrowerGain p1_either p1_lender p1_lenderGain p1_year p2 p3 60 t_boundYears t_lending t_borrowing t_most
  else
    gn_X1_reckon_0 p1_deals p1_borrower p1_borrowerGain p1_either p1_lender p1_lenderGain p1_year p2 p3 p4 t_boundYears t_lending t_borrowing t_most
noncomputable def bd_X1_keepRow_0 (t_boundYears : Int32) (t_borrowing : Nat → Int32) (t_lending : Nat → Int32) (t_most : Nat → Int32) (v1 : Int32) (v2 : Int32) (v4 : Int32) (t_kept : Int32) (t_row : Nat → Int32) : Option (((Int32 × Int32 × Int32 × Int32 × (Nat → Int32)) ⊕ ((Int32 × Int32 × Int32 × (Nat → Int32)) ⊕ ((Int32 × Int32 × Int32 × (Nat → Int32)) ⊕ ((Int32 × Int32 × Int32 × (Nat → Int32)) ⊕ ((Int32 × Int32 × Int32 × Int32 × (Nat → Int32))))))) ⊕ (Int32 × (Nat → Int32))) :=
  if (60 : Int32) ≤ v4 then
    some (.inr (t_kept, t_row))
  else
    if v1 ≤ v4 then
      if inb v4 61 = true then
      if inb (v4 + 1) 61 = true then
      if (t_most (v4).toNatClampNeg) = (t_most ((v4 + 1)).toNatClampNeg) then
        if inb v4 60 = true then
        some (.inl (.inl (v1, v2, v4 + 1, t_kept, upd t_row (v4).toNatClampNeg 0)))
        else none
      else
        if inb v4 61 = true then
        Option.bind (dn_X1_byBinding t_boundYears t_most t_lending v4) fun q7 =>
        if (t_most (v4).toNatClampNeg) = q7 then
          some (.inl (.inr (.inl (v4, 1, t_kept, t_row))))
        else
          some (.inl (.inr (.inl (v4, 0, t_kept, t_row))))
        else none
      else none
      else none
    else
      if inb (v4 + 1) 61 = true then
      if inb v4 61 = true then
      if (t_lending ((v4 + 1)).toNatClampNeg) ≤ (t_lending (v4).toNatClampNeg) then
        if inb v4 60 = true then
        some (.inl (.inl (v1, v2, v4 + 1, t_kept, upd t_row (v4).toNatClampNeg 0)))
        else none
      else
        if inb v4 60 = true then
        some (.inl (.inl (v1, v2, v4 + 1, t_kept, upd t_row (v4).toNatClampNeg v2)))
        else none
      else none
      else none
noncomputable def bd_X1_keepRow_1 (t_boundYears : Int32) (t_borrowing : Nat → Int32) (t_lending : Nat → Int32) (t_most : Nat → Int32) (v4 : Int32) (k0 : Int32) (t_kept : Int32) (t_row : Nat → Int32) : Option (((Int32 × Int32 × Int32 × Int32 × (Nat → Int32)) ⊕ ((Int32 × Int32 × Int32 × (Nat → Int32)) ⊕ ((Int32 × Int32 × Int32 × (Nat → Int32)) ⊕ ((Int32 × Int32 × Int32 × (Nat → Int32)) ⊕ ((Int32 × Int32 × Int32 × Int32 × (Nat → Int32))))))) ⊕ (Int32 × (Nat → Int32))) :=
  if k0 = 0 then
    if k0 = 0 then
      some (.inl (.inr (.inr (.inl (2, v4, t_kept, t_row)))))
    else
      some (.inl (.inr (.inr (.inr (.inl (2, v4, t_kept, t_row))))))
  else
    if k0 = 0 then
      some (.inl (.inr (.inr (.inl (1, v4, t_kept, t_row)))))
    else
      some (.inl (.inr (.inr (.inr (.inl (1, v4, t_kept, t_row))))))
noncomputable def bd_X1_keepRow_2 (t_boundYears : Int32) (t_borrowing : Nat → Int32) (t_lending : Nat → Int32) (t_most : Nat → Int32) (v2 : Int32) (v4 : Int32) (t_kept : Int32) (t_row : Nat → Int32) : Option (((Int32 × Int32 × Int32 × Int32 × (Nat → Int32)) ⊕ ((Int32 × Int32 × Int32 × (Nat → Int32)) ⊕ ((Int32 × Int32 × Int32 × (Nat → Int32)) ⊕ ((Int32 × Int32 × Int32 × (Nat → Int32)) ⊕ ((Int32 × Int32 × Int32 × Int32 × (Nat → Int32))))))) ⊕ (Int32 × (Nat → Int32))) :=
  Option.bind (dn_X1_freeAgain t_boundYears v4) fun q18 =>
  if inb v4 60 = true then
  some (.inl (.inr (.inr (.inr (.inr ((q18, v2, v4 + 1, t_kept, upd t_row (v4).toNatClampNeg v2)))))))
  else none
noncomputable def bd_X1_keepRow_3 (t_boundYears : Int32) (t_borrowing : Nat → Int32) (t_lending : Nat → Int32) (t_most : Nat → Int32) (v2 : Int32) (v4 : Int32) (t_kept : Int32) (t_row : Nat → Int32) : Option (((Int32 × Int32 × Int32 × Int32 × (Nat → Int32)) ⊕ ((Int32 × Int32 × Int32 × (Nat → Int32)) ⊕ ((Int32 × Int32 × Int32 × (Nat → Int32)) ⊕ ((Int32 × Int32 × Int32 × (Nat → Int32)) ⊕ ((Int32 × Int32 × Int32 × Int32 × (Nat → Int32))))))) ⊕ (Int32 × (Nat → Int32))) :=
  Option.bind (dn_X1_freeAgain t_boundYears v4) fun q20 =>
  if inb v4 60 = true then
  some (.inl (.inl (q20, v2, v4 + 1, t_kept, upd t_row (v4).toNatClampNeg v2)))
  else none
noncomputable def bd_X1_keepRow_4 (t_boundYears : Int32) (t_borrowing : Nat → Int32) (t_lending : Nat → Int32) (t_most : Nat → Int32) (v1 : Int32) (v2 : Int32) (v4 : Int32) (t_kept : Int32) (t_row : Nat → Int32) : Option (((Int32 × Int32 × Int32 × Int32 × (Nat → Int32)) ⊕ ((Int32 × Int32 × Int32 × (Nat → Int32)) ⊕ ((Int32 × Int32 × Int32 × (Nat → Int32)) ⊕ ((Int32 × Int32 × Int32 × (Nat → Int32)) ⊕ ((Int32 × Int32 × Int32 × Int32 × (Nat → Int32))))))) ⊕ (Int32 × (Nat → Int32))) :=
  if (60 : Int32) ≤ v4 then
    some (.inr (t_kept, t_row))
  else
    if v1 ≤ v4 then
      if inb v4 61 = true then
      if inb (v4 + 1) 61 = true then
      if (t_most (v4).toNatClampNeg) = (t_most ((v4 + 1)).toNatClampNeg) then
        if inb v4 60 = true then
        some (.inl (.inr (.inr (.inr (.inr ((v1, v2, v4 + 1, t_kept, upd t_row (v4).toNatClampNeg 0)))))))
        else none
      else
        if inb v4 61 = true then
        Option.bind (dn_X1_byBinding t_boundYears t_most t_lending v4) fun q28 =>
        if (t_most (v4).toNatClampNeg) = q28 then
          some (.inl (.inr (.inl (v4, 1, t_kept, t_row))))
        else
          some (.inl (.inr (.inl (v4, 0, t_kept, t_row))))
        else none
      else none
      else none
    else
      if inb (v4 + 1) 61 = true then
      if inb v4 61 = true then
      if (t_borrowing ((v4 + 1)).toNatClampNeg) ≤ (t_borrowing (v4).toNatClampNeg) then
        if inb v4 60 = true then
        some (.inl (.inr (.inr (.inr (.inr ((v1, v2, v4 + 1, t_kept, upd t_row (v4).toNatClampNeg 0)))))))
        else none
      else
        if inb v4 60 = true then
        some (.inl (.inr (.inr (.inr (.inr ((v1, v2, v4 + 1, t_kept, upd t_row (v4).toNatClampNeg v2)))))))
        else none
      else none
      else none
noncomputable def st_X1_keepRow (t_boundYears : Int32) (t_borrowing : Nat → Int32) (t_lending : Nat → Int32) (t_most : Nat → Int32) : ((Int32 × Int32 × Int32 × Int32 × (Nat → Int32)) ⊕ ((Int32 × Int32 × Int32 × (Nat → Int32)) ⊕ ((Int32 × Int32 × Int32 × (Nat → Int32)) ⊕ ((Int32 × Int32 × Int32 × (Nat → Int32)) ⊕ ((Int32 × Int32 × Int32 × Int32 × (Nat → Int32))))))) → Option (((Int32 × Int32 × Int32 × Int32 × (Nat → Int32)) ⊕ ((Int32 × Int32 × Int32 × (Nat → Int32)) ⊕ ((Int32 × Int32 × Int32 × (Nat → Int32)) ⊕ ((Int32 × Int32 × Int32 × (Nat → Int32)) ⊕ ((Int32 × Int32 × Int32 × Int32 × (Nat → Int32))))))) ⊕ (Int32 × (Nat → Int32))) := fun s => match s with
  | .inl (v1, v2, v4, t_kept, t_row) => bd_X1_keepRow_0 t_boundYears t_borrowing t_lending t_most v1 v2 v4 t_kept t_row
  | .inr (.inl (v4, k0, t_kept, t_row)) => bd_X1_keepRow_1 t_boundYears t_borrowing t_lending t_most v4 k0 t_kept t_row
  | .inr (.inr (.inl (v2, v4, t_kept, t_row))) => bd_X1_keepRow_2 t_boundYears t_borrowing t_lending t_most v2 v4 t_kept t_row
  | .inr (.inr (.inr (.inl (v2, v4, t_kept, t_row)))) => bd_X1_keepRow_3 t_boundYears t_borrowing t_lending t_most v2 v4 t_kept t_row
  | .inr (.inr (.inr (.inr ((v1, v2, v4, t_kept, t_row))))) => bd_X1_keepRow_4 t_boundYears t_borrowing t_lending t_most v1 v2 v4 t_kept t_row
noncomputable def gn_X1_keepRow_0 (t_boundYears : Int32) (t_borrowing : Nat → Int32) (t_lending : Nat → Int32) (t_most : Nat → Int32) (v1 : Int32) (v2 : Int32) (v4 : Int32) (t_kept : Int32) (t_row : Nat → Int32) : Option (Int32 × (Nat → Int32)) := lpC (st_X1_keepRow t_boundYears t_borrowing t_lending t_most) (.inl (v1, v2, v4, t_kept, t_row))
noncomputable def gn_X1_keepRow_1 (t_boundYears : Int32) (t_borrowing : Nat → Int32) (t_lending : Nat → Int32) (t_most : Nat → Int32) (v4 : Int32) (k0 : Int32) (t_kept : Int32) (t_row : Nat → Int32) : Option (Int32 × (Nat → Int32)) := lpC (st_X1_keepRow t_boundYears t_borrowing t_lending t_most) (.inr (.inl (v4, k0, t_kept, t_row)))
noncomputable def gn_X1_keepRow_2 (t_boundYears : Int32) (t_borrowing : Nat → Int32) (t_lending : Nat → Int32) (t_most : Nat → Int32) (v2 : Int32) (v4 : Int32) (t_kept : Int32) (t_row : Nat → Int32) : Option (Int32 × (Nat → Int32)) := lpC (st_X1_keepRow t_boundYears t_borrowing t_lending t_most) (.inr (.inr (.inl (v2, v4, t_kept, t_row))))
noncomputable def gn_X1_keepRow_3 (t_boundYears : Int32) (t_borrowing : Nat → Int32) (t_lending : Nat → Int32) (t_most : Nat → Int32) (v2 : Int32) (v4 : Int32) (t_kept : Int32) (t_row : Nat → Int32) : Option (Int32 × (Nat → Int32)) := lpC (st_X1_keepRow t_boundYears t_borrowing t_lending t_most) (.inr (.inr (.inr (.inl (v2, v4, t_kept, t_row)))))
noncomputable def gn_X1_keepRow_4 (t_boundYears : Int32) (t_borrowing : Nat → Int32) (t_lending : Nat → Int32) (t_most : Nat → Int32) (v1 : Int32) (v2 : Int32) (v4 : Int32) (t_kept : Int32) (t_row : Nat → Int32) : Option (Int32 × (Nat → Int32)) := lpC (st_X1_keepRow t_boundYears t_borrowing t_lending t_most) (.inr (.inr (.inr (.inr ((v1, v2, v4, t_kept, t_row))))))
theorem gq_X1_keepRow_0 (t_boundYears : Int32) (t_borrowing : Nat → Int32) (t_lending : Nat → Int32) (t_most : Nat → Int32) (v1 : Int32) (v2 : Int32) (v4 : Int32) (t_kept : Int32) (t_row : Nat → Int32) : gn_X1_keepRow_0 t_boundYears t_borrowing t_lending t_most v1 v2 v4 t_kept t_row =
    if (60 : Int32) ≤ v4 then
      some (t_kept, t_row)
    else
      if v1 ≤ v4 then
        if inb v4 61 = true then
        if inb (v4 + 1) 61 = true then
        if (t_most (v4).toNatClampNeg) = (t_most ((v4 + 1)).toNatClampNeg) then
          if inb v4 60 = true then
          gn_X1_keepRow_0 t_boundYears t_borrowing t_lending t_most v1 v2 (v4 + 1) t_kept (upd t_row (v4).toNatClampNeg 0)
          else none
        else
          if inb v4 61 = true then
          Option.bind (dn_X1_byBinding t_boundYears t_most t_lending v4) fun q7 =>
          if (t_most (v4).toNatClampNeg) = q7 then
            gn_X1_keepRow_1 t_boundYears t_borrowing t_lending t_most v4 1 t_kept t_row
          else
            gn_X1_keepRow_1 t_boundYears t_borrowing t_lending t_most v4 0 t_kept t_row
          else none
        else none
        else none
      else
        if inb (v4 + 1) 61 = true then
        if inb v4 61 = true then
        if (t_lending ((v4 + 1)).toNatClampNeg) ≤ (t_lending (v4).toNatClampNeg) then
          if inb v4 60 = true then
          gn_X1_keepRow_0 t_boundYears t_borrowing t_lending t_most v1 v2 (v4 + 1) t_kept (upd t_row (v4).toNatClampNeg 0)
          else none
        else
          if inb v4 60 = true then
          gn_X1_keepRow_0 t_boundYears t_borrowing t_lending t_most v1 v2 (v4 + 1) t_kept (upd t_row (v4).toNatClampNeg v2)
          else none
        else none
        else none := by
  rw [gn_X1_keepRow_0, lpC_eq]
  show lpO _ (bd_X1_keepRow_0 t_boundYears t_borrowing t_lending t_most v1 v2 v4 t_kept t_row) = _
  unfold bd_X1_keepRow_0
  simp only [lpO_ite, lpO_bind, lpO_none, lpO_l, lpO_r]
  try rfl
theorem gq_X1_keepRow_1 (t_boundYears : Int32) (t_borrowing : Nat → Int32) (t_lending : Nat → Int32) (t_most : Nat → Int32) (v4 : Int32) (k0 : Int32) (t_kept : Int32) (t_row : Nat → Int32) : gn_X1_keepRow_1 t_boundYears t_borrowing t_lending t_most v4 k0 t_kept t_row =
    if k0 = 0 then
      if k0 = 0 then
        gn_X1_keepRow_2 t_boundYears t_borrowing t_lending t_most 2 v4 t_kept t_row
      else
        gn_X1_keepRow_3 t_boundYears t_borrowing t_lending t_most 2 v4 t_kept t_row
    else
      if k0 = 0 then
        gn_X1_keepRow_2 t_boundYears t_borrowing t_lending t_most 1 v4 t_kept t_row
      else
        gn_X1_keepRow_3 t_boundYears t_borrowing t_lending t_most 1 v4 t_kept t_row := by
  rw [gn_X1_keepRow_1, lpC_eq]
  show lpO _ (bd_X1_keepRow_1 t_boundYears t_borrowing t_lending t_most v4 k0 t_kept t_row) = _
  unfold bd_X1_keepRow_1
  simp only [lpO_ite, lpO_bind, lpO_none, lpO_l, lpO_r]
  try rfl
theorem gq_X1_keepRow_2 (t_boundYears : Int32) (t_borrowing : Nat → Int32) (t_lending : Nat → Int32) (t_most : Nat → Int32) (v2 : Int32) (v4 : Int32) (t_kept : Int32) (t_row : Nat → Int32) : gn_X1_keepRow_2 t_boundYears t_borrowing t_lending t_most v2 v4 t_kept t_row =
    Option.bind (dn_X1_freeAgain t_boundYears v4) fun q18 =>
    if inb v4 60 = true then
    gn_X1_keepRow_4 t_boundYears t_borrowing t_lending t_most q18 v2 (v4 + 1) t_kept (upd t_row (v4).toNatClampNeg v2)
    else none := by
  rw [gn_X1_keepRow_2, lpC_eq]
  show lpO _ (bd_X1_keepRow_2 t_boundYears t_borrowing t_lending t_most v2 v4 t_kept t_row) = _
  unfold bd_X1_keepRow_2
  simp only [lpO_ite, lpO_bind, lpO_none, lpO_l, lpO_r]
  try rfl
theorem gq_X1_keepRow_3 (t_boundYears : Int32) (t_borrowing : Nat → Int32) (t_lending : Nat → Int32) (t_most : Nat → Int32) (v2 : Int32) (v4 : Int32) (t_kept : Int32) (t_row : Nat → Int32) : gn_X1_keepRow_3 t_boundYears t_borrowing t_lending t_most v2 v4 t_kept t_row =
    Option.bind (dn_X1_freeAgain t_boundYears v4) fun q20 =>
    if inb v4 60 = true then
    gn_X1_keepRow_0 t_boundYears t_borrowing t_lending t_most q20 v2 (v4 + 1) t_kept (upd t_row (v4).toNatClampNeg v2)
    else none := by
  rw [gn_X1_keepRow_3, lpC_eq]
  show lpO _ (bd_X1_keepRow_3 t_boundYears t_borrowing t_lending t_most v2 v4 t_kept t_row) = _
  unfold bd_X1_keepRow_3
  simp only [lpO_ite, lpO_bind, lpO_none, lpO_l, lpO_r]
  try rfl
theorem gq_X1_keepRow_4 (t_boundYears : Int32) (t_borrowing : Nat → Int32) (t_lending : Nat → Int32) (t_most : Nat → Int32) (v1 : Int32) (v2 : Int32) (v4 : Int32) (t_kept : Int32) (t_row : Nat → Int32) : gn_X1_keepRow_4 t_boundYears t_borrowing t_lending t_most v1 v2 v4 t_kept t_row =
    if (60 : Int32) ≤ v4 then
      some (t_kept, t_row)
    else
      if v1 ≤ v4 then
        if inb v4 61 = true then
        if inb (v4 + 1) 61 = true then
        if (t_most (v4).toNatClampNeg) = (t_most ((v4 + 1)).toNatClampNeg) then
          if inb v4 60 = true then
          gn_X1_keepRow_4 t_boundYears t_borrowing t_lending t_most v1 v2 (v4 + 1) t_kept (upd t_row (v4).toNatClampNeg 0)
          else none
        else
          if inb v4 61 = true then
          Option.bind (dn_X1_byBinding t_boundYears t_most t_lending v4) fun q28 =>
          if (t_most (v4).toNatClampNeg) = q28 then
            gn_X1_keepRow_1 t_boundYears t_borrowing t_lending t_most v4 1 t_kept t_row
          else
            gn_X1_keepRow_1 t_boundYears t_borrowing t_lending t_most v4 0 t_kept t_row
          else none
        else none
        else none
      else
        if inb (v4 + 1) 61 = true then
        if inb v4 61 = true then
        if (t_borrowing ((v4 + 1)).toNatClampNeg) ≤ (t_borrowing (v4).toNatClampNeg) then
          if inb v4 60 = true then
          gn_X1_keepRow_4 t_boundYears t_borrowing t_lending t_most v1 v2 (v4 + 1) t_kept (upd t_row (v4).toNatClampNeg 0)
          else none
        else
          if inb v4 60 = true then
          gn_X1_keepRow_4 t_boundYears t_borrowing t_lending t_most v1 v2 (v4 + 1) t_kept (upd t_row (v4).toNatClampNeg v2)
          else none
        else none
        else none := by
  rw [gn_X1_keepRow_4, lpC_eq]
  show lpO _ (bd_X1_keepRow_4 t_boundYears t_borrowing t_lending t_most v1 v2 v4 t_kept t_row) = _
  unfold bd_X1_keepRow_4
  simp only [lpO_ite, lpO_bind, lpO_none, lpO_l, lpO_r]
  try rfl
noncomputable def dn_X1_keepRow (t_boundYears : Int32) (t_borrowing : Nat → Int32) (t_lending : Nat → Int32) (t_most : Nat → Int32) (t_row : Nat → Int32) : Option (Int32 × (Nat → Int32)) :=
  gn_X1_keepRow_0 t_boundYears t_borrowing t_lending t_most 0 0 0 1 t_row
noncomputable def dn_J6_bitCount_0f7a4 (p1 : Int32) : Option (Int32) :=
  some ((((((((p1 - (((p1.toUInt32 >>> ((1 : Int32).toUInt32 &&& Int32.toUInt32 31)).toInt32) &&& 1431655765)) &&& 858993459) + ((((p1 - (((p1.toUInt32 >>> ((1 : Int32).toUInt32 &&& Int32.toUInt32 31)).toInt32) &&& 1431655765)).toUInt32 >>> ((2 : Int32).toUInt32 &&& Int32.toUInt32 31)).toInt32) &&& 858993459)) + (((((p1 - (((p1.toUInt32 >>> ((1 : Int32).toUInt32 &&& Int32.toUInt32 31)).toInt32) &&& 1431655765)) &&& 858993459) + ((((p1 - (((p1.toUInt32 >>> ((1 : Int32).toUInt32 &&& Int32.toUInt32 31)).toInt32) &&& 1431655765)).toUInt32 >>> ((2 : Int32).toUInt32 &&& Int32.toUInt32 31)).toInt32) &&& 858993459)).toUInt32 >>> ((4 : Int32).toUInt32 &&& Int32.toUInt32 31)).toInt32)) &&& 252645135) + (((((((p1 - (((p1.toUInt32 >>> ((1 : Int32).toUInt32 &&& Int32.toUInt32 31)).toInt32) &&& 1431655765)) &&& 858993459) + ((((p1 - (((p1.toUInt32 >>> ((1 : Int32).toUInt32 &&& Int32.toUInt32 31)).toInt32) &&& 1431655765)).toUInt32 >>> ((2 : Int32).toUInt32 &&& Int32.toUInt32 31)).toInt32) &&& 858993459)) + (((((p1 - (((p1.toUInt32 >>> ((1 : Int32).toUInt32 &&& Int32.toUInt32 31)).toInt32) &&& 1431655765)) &&& 858993459) + ((((p1 - (((p1.toUInt32 >>> ((1 : Int32).toUInt32 &&& Int32.toUInt32 31)).toInt32) &&& 1431655765)).toUInt32 >>> ((2 : Int32).toUInt32 &&& Int32.toUInt32 31)).toInt32) &&& 858993459)).toUInt32 >>> ((4 : Int32).toUInt32 &&& Int32.toUInt32 31)).toInt32)) &&& 252645135).toUInt32 >>> ((8 : Int32).toUInt32 &&& Int32.toUInt32 31)).toInt32)) + ((((((((p1 - (((p1.toUInt32 >>> ((1 : Int32).toUInt32 &&& Int32.toUInt32 31)).toInt32) &&& 1431655765)) &&& 858993459) + ((((p1 - (((p1.toUInt32 >>> ((1 : Int32).toUInt32 &&& Int32.toUInt32 31)).toInt32) &&& 1431655765)).toUInt32 >>> ((2 : Int32).toUInt32 &&& Int32.toUInt32 31)).toInt32) &&& 858993459)) + (((((p1 - (((p1.toUInt32 >>> ((1 : Int32).toUInt32 &&& Int32.toUInt32 31)).toInt32) &&& 1431655765)) &&& 858993459) + ((((p1 - (((p1.toUInt32 >>> ((1 : Int32).toUInt32 &&& Int32.toUInt32 31)).toInt32) &&& 1431655765)).toUInt32 >>> ((2 : Int32).toUInt32 &&& Int32.toUInt32 31)).toInt32) &&& 858993459)).toUInt32 >>> ((4 : Int32).toUInt32 &&& Int32.toUInt32 31)).toInt32)) &&& 252645135) + (((((((p1 - (((p1.toUInt32 >>> ((1 : Int32).toUInt32 &&& Int32.toUInt32 31)).toInt32) &&& 1431655765)) &&& 858993459) + ((((p1 - (((p1.toUInt32 >>> ((1 : Int32).toUInt32 &&& Int32.toUInt32 31)).toInt32) &&& 1431655765)).toUInt32 >>> ((2 : Int32).toUInt32 &&& Int32.toUInt32 31)).toInt32) &&& 858993459)) + (((((p1 - (((p1.toUInt32 >>> ((1 : Int32).toUInt32 &&& Int32.toUInt32 31)).toInt32) &&& 1431655765)) &&& 858993459) + ((((p1 - (((p1.toUInt32 >>> ((1 : Int32).toUInt32 &&& Int32.toUInt32 31)).toInt32) &&& 1431655765)).toUInt32 >>> ((2 : Int32).toUInt32 &&& Int32.toUInt32 31)).toInt32) &&& 858993459)).toUInt32 >>> ((4 : Int32).toUInt32 &&& Int32.toUInt32 31)).toInt32)) &&& 252645135).toUInt32 >>> ((8 : Int32).toUInt32 &&& Int32.toUInt32 31)).toInt32)).toUInt32 >>> ((16 : Int32).toUInt32 &&& Int32.toUInt32 31)).toInt32)) &&& 63)
noncomputable def bd_X7_behindOne_0 (p1_persons : Int32) (p1_deals : Int32) (p1_borrower : Nat → Int32) (p1_borrowerGain : Nat → Int32) (p1_either : Nat → Int32) (p1_lender : Nat → Int32) (p1_lenderGain : Nat → Int32) (v2 : Int32) (v3 : Int32) : Option (((Int32 × Int32)) ⊕ (Int32)) :=
  if p1_persons ≤ v3 then
    some (.inr v2)
  else
    Option.bind (dn_X10_hasMoreByChange p1_deals p1_borrower p1_borrowerGain p1_either p1_lender p1_lenderGain v3 v2) fun q2 =>
    if q2 = true then
      some (.inl (v2 ^^^ ((1 : Int32) <<< (v3 &&& 31)), v3 + 1))
    else
      some (.inl (v2, v3 + 1))
noncomputable def st_X7_behindOne (p1_persons : Int32) (p1_deals : Int32) (p1_borrower : Nat → Int32) (p1_borrowerGain : Nat → Int32) (p1_either : Nat → Int32) (p1_lender : Nat → Int32) (p1_lenderGain : Nat → Int32) : ((Int32 × Int32)) → Option (((Int32 × Int32)) ⊕ (Int32)) := fun s => match s with
  | (v2, v3) => bd_X7_behindOne_0 p1_persons p1_deals p1_borrower p1_borrowerGain p1_either p1_lender p1_lenderGain v2 v3
noncomputable def gn_X7_behindOne_0 (p1_persons : Int32) (p1_deals : Int32) (p1_borrower : Nat → Int32) (p1_borrowerGain : Nat → Int32) (p1_either : Nat → Int32) (p1_lender : Nat → Int32) (p1_lenderGain : Nat → Int32) (v2 : Int32) (v3 : Int32) : Option (Int32) := lpC (st_X7_behindOne p1_persons p1_deals p1_borrower p1_borrowerGain p1_either p1_lender p1_lenderGain) ((v2, v3))
theorem gq_X7_behindOne_0 (p1_persons : Int32) (p1_deals : Int32) (p1_borrower : Nat → Int32) (p1_borrowerGain : Nat → Int32) (p1_either : Nat → Int32) (p1_lender : Nat → Int32) (p1_lenderGain : Nat → Int32) (v2 : Int32) (v3 : Int32) : gn_X7_behindOne_0 p1_persons p1_deals p1_borrower p1_borrowerGain p1_either p1_lender p1_lenderGain v2 v3 =
    if p1_persons ≤ v3 then
      some v2
    else
      Option.bind (dn_X10_hasMoreByChange p1_deals p1_borrower p1_borrowerGain p1_either p1_lender p1_lenderGain v3 v2) fun q2 =>
      if q2 = true then
        gn_X7_behindOne_0 p1_persons p1_deals p1_borrower p1_borrowerGain p1_either p1_lender p1_lenderGain (v2 ^^^ ((1 : Int32) <<< (v3 &&& 31))) (v3 + 1)
      else
        gn_X7_behindOne_0 p1_persons p1_deals p1_borrower p1_borrowerGain p1_either p1_lender p1_lenderGain v2 (v3 + 1) := by
  rw [gn_X7_behindOne_0, lpC_eq]
  show lpO _ (bd_X7_behindOne_0 p1_persons p1_deals p1_borrower p1_borrowerGain p1_either p1_lender p1_lenderGain v2 v3) = _
  unfold bd_X7_behindOne_0
  simp only [lpO_ite, lpO_bind, lpO_none, lpO_l, lpO_r]
  try rfl
noncomputable def dn_X7_behindOne (p1_persons : Int32) (p1_deals : Int32) (p1_borrower : Nat → Int32) (p1_borrowerGain : Nat → Int32) (p1_either : Nat → Int32) (p1_lender : Nat → Int32) (p1_lenderGain : Nat → Int32) (p2 : Int32) : Option (Int32) :=
  gn_X7_behindOne_0 p1_persons p1_deals p1_borrower p1_borrowerGain p1_either p1_lender p1_lenderGain p2 0
noncomputable def bd_X7_follow_0 (p1_persons : Int32) (p1_deals : Int32) (p1_borrower : Nat → Int32) (p1_borrowerGain : Nat → Int32) (p1_either : Nat → Int32) (p1_lender : Nat → Int32) (p1_lenderGain : Nat → Int32) (v3 : Int32) (t_behindRound : Nat → Int32) (t_known : Int32) (t_lastParts : Int32) (t_length : Int32) : Option (((Int32 × (Nat → Int32) × Int32 × Int32 × Int32)) ⊕ (Int32 × (Nat → Int32) × Int32 × Int32 × Int32)) :=
  if (1024 : Int32) < v3 then
    some (.inr (1024, t_behindRound, t_known, t_lastParts, t_length))
  else
    Option.bind (dn_X7_behindOne p1_persons p1_deals p1_borrower p1_borrowerGain p1_either p1_lender p1_lenderGain t_lastParts) fun q4 =>
    if q4 = t_lastParts then
      some (.inr (v3, t_behindRound, t_known, t_lastParts, t_length))
    else
      if inb q4 1024 = true then
      if (t_behindRound (q4).toNatClampNeg) = (-1) then
        if inb q4 1024 = true then
        some (.inl (v3 + 1, upd t_behindRound (q4).toNatClampNeg v3, t_known, q4, t_length))
        else none
      else
        if inb q4 1024 = true then
        some (.inr (v3, t_behindRound, t_known, q4, v3 - (t_behindRound (q4).toNatClampNeg)))
        else none
      else none
noncomputable def st_X7_follow (p1_persons : Int32) (p1_deals : Int32) (p1_borrower : Nat → Int32) (p1_borrowerGain : Nat → Int32) (p1_either : Nat → Int32) (p1_lender : Nat → Int32) (p1_lenderGain : Nat → Int32) : ((Int32 × (Nat → Int32) × Int32 × Int32 × Int32)) → Option (((Int32 × (Nat → Int32) × Int32 × Int32 × Int32)) ⊕ (Int32 × (Nat → Int32) × Int32 × Int32 × Int32)) := fun s => match s with
  | (v3, t_behindRound, t_known, t_lastParts, t_length) => bd_X7_follow_0 p1_persons p1_deals p1_borrower p1_borrowerGain p1_either p1_lender p1_lenderGain v3 t_behindRound t_known t_lastParts t_length
noncomputable def gn_X7_follow_0 (p1_persons : Int32) (p1_deals : Int32) (p1_borrower : Nat → Int32) (p1_borrowerGain : Nat → Int32) (p1_either : Nat → Int32) (p1_lender : Nat → Int32) (p1_lenderGain : Nat → Int32) (v3 : Int32) (t_behindRound : Nat → Int32) (t_known : Int32) (t_lastParts : Int32) (t_length : Int32) : Option (Int32 × (Nat → Int32) × Int32 × Int32 × Int32) := lpC (st_X7_follow p1_persons p1_deals p1_borrower p1_borrowerGain p1_either p1_lender p1_lenderGain) ((v3, t_behindRound, t_known, t_lastParts, t_length))
theorem gq_X7_follow_0 (p1_persons : Int32) (p1_deals : Int32) (p1_borrower : Nat → Int32) (p1_borrowerGain : Nat → Int32) (p1_either : Nat → Int32) (p1_lender : Nat → Int32) (p1_lenderGain : Nat → Int32) (v3 : Int32) (t_behindRound : Nat → Int32) (t_known : Int32) (t_lastParts : Int32) (t_length : Int32) : gn_X7_follow_0 p1_persons p1_deals p1_borrower p1_borrowerGain p1_either p1_lender p1_lenderGain v3 t_behindRound t_known t_lastParts t_length =
    if (1024 : Int32) < v3 then
      some (1024, t_behindRound, t_known, t_lastParts, t_length)
    else
      Option.bind (dn_X7_behindOne p1_persons p1_deals p1_borrower p1_borrowerGain p1_either p1_lender p1_lenderGain t_lastParts) fun q4 =>
      if q4 = t_lastParts then
        some (v3, t_behindRound, t_known, t_lastParts, t_length)
      else
        if inb q4 1024 = true then
        if (t_behindRound (q4).toNatClampNeg) = (-1) then
          if inb q4 1024 = true then
          gn_X7_follow_0 p1_persons p1_deals p1_borrower p1_borrowerGain p1_either p1_lender p1_lenderGain (v3 + 1) (upd t_behindRound (q4).toNatClampNeg v3) t_known q4 t_length
          else none
        else
          if inb q4 1024 = true then
          some (v3, t_behindRound, t_known, q4, v3 - (t_behindRound (q4).toNatClampNeg))
          else none
        else none := by
  rw [gn_X7_follow_0, lpC_eq]
  show lpO _ (bd_X7_follow_0 p1_persons p1_deals p1_borrower p1_borrowerGain p1_either p1_lender p1_lenderGain v3 t_behindRound t_known t_lastParts t_length) = _
  unfold bd_X7_follow_0
  simp only [lpO_ite, lpO_bind, lpO_none, lpO_l, lpO_r]
  try rfl
noncomputable def dn_X7_follow (t_behindRound : Nat → Int32) (p1_persons : Int32) (p1_deals : Int32) (p1_borrower : Nat → Int32) (p1_borrowerGain : Nat → Int32) (p1_either : Nat → Int32) (p1_lender : Nat → Int32) (p1_lenderGain : Nat → Int32) (p2 : Int32) : Option (Int32 × (Nat → Int32) × Int32 × Int32 × Int32) :=
  if inb p2 1024 = true then
  gn_X7_follow_0 p1_persons p1_deals p1_borrower p1_borrowerGain p1_either p1_lender p1_lenderGain 1 (upd (jfill 1024 t_behindRound (-1)) (p2).toNatClampNeg 0) 1 p2 0
  else none
noncomputable def bd_X3_tryFrom_0 (rec : (Nat → Int32) → Int32 → (Nat → Int32) → (Nat → Int32) → (Nat → Int32) → (Nat → Int32) → Int32 → Int32 → (Nat → Int32) → (Nat → Int32) → (Nat → Int32) → (Nat → Int32) → (Nat → Int32) → (Nat → Int32) → (Nat → Int32) → Int32 → (Nat → Int32) → (Nat → Int32) → Int32 → Int32 → Option (Int32 × (Nat → Int32) × (Nat → Int32) × (Nat → Int32) × (Nat → Int32) × (Nat → Int32) × Int32)) (t_ahead : Nat → Int32) (p1_deals : Int32) (p1_lawYears : Int32) (p1_borrower : Nat → Int32) (p1_borrowerGain : Nat → Int32) (p1_byYear : Nat → Int32) (p1_either : Nat → Int32) (p1_lender : Nat → Int32) (p1_lenderGain : Nat → Int32) (p1_limit : Nat → Int32) (p1_year : Nat → Int32) (p2 : Int32) (p3 : Int32) (v4 : Int32) (v5 : Int32) (p1_memo_lawfulGain : Int32) (p1_memo_lawfulWays : Nat → Int32) (t_ways : Nat → Int32) (t_trial_deal : Nat → Int32) (t_trial_way : Nat → Int32) (t_trial_foundNothing : Nat → Int32) (t_trial_size : Int32) : Option (((Int32 × Int32 × Int32 × (Nat → Int32) × (Nat → Int32) × (Nat → Int32) × (Nat → Int32) × (Nat → Int32) × Int32)) ⊕ (Int32 × (Nat → Int32) × (Nat → Int32) × (Nat → Int32) × (Nat → Int32) × (Nat → Int32) × Int32)) :=
  if (2 : Int32) < v5 then
    some (.inr (p1_memo_lawfulGain, p1_memo_lawfulWays, t_ways, t_trial_deal, t_trial_way, t_trial_foundNothing, t_trial_size))
  else
    if inb v4 12 = true then
    if v5 = 0 then
      Option.bind (rec t_ahead t_trial_size t_trial_deal t_trial_foundNothing t_trial_way (upd t_ways (v4).toNatClampNeg v5) p1_deals p1_lawYears p1_borrower p1_borrowerGain p1_byYear p1_either p1_lender p1_lenderGain p1_limit p1_memo_lawfulGain p1_memo_lawfulWays p1_year (p2 + 1) p3) fun q14 =>
      some (.inl (v4, v5 + 1, q14.1, q14.2.1, q14.2.2.1, q14.2.2.2.1, q14.2.2.2.2.1, q14.2.2.2.2.2.1, q14.2.2.2.2.2.2))
    else
      Option.bind (dn_X0_tryDeal t_trial_size t_trial_deal t_trial_foundNothing t_trial_way p1_lawYears p1_borrower p1_either p1_lender p1_limit p1_year v4 v5) fun q9 =>
      if q9.1 = 0 then
        Option.bind (dn_X10_bothShares p1_borrowerGain p1_lenderGain v4) fun q11 =>
        Option.bind (rec t_ahead q9.2.2.2.2 q9.2.1 q9.2.2.2.1 q9.2.2.1 (upd t_ways (v4).toNatClampNeg v5) p1_deals p1_lawYears p1_borrower p1_borrowerGain p1_byYear p1_either p1_lender p1_lenderGain p1_limit p1_memo_lawfulGain p1_memo_lawfulWays p1_year (p2 + 1) (p3 + q11)) fun q12 =>
        Option.bind (dn_X0_dropLast q12.2.2.2.2.2.2) fun q13 =>
        some (.inl (v4, v5 + 1, q12.1, q12.2.1, q12.2.2.1, q12.2.2.2.1, q12.2.2.2.2.1, q12.2.2.2.2.2.1, q13))
      else
        some (.inl (v4, v5 + 1, p1_memo_lawfulGain, p1_memo_lawfulWays, upd t_ways (v4).toNatClampNeg v5, q9.2.1, q9.2.2.1, q9.2.2.2.1, q9.2.2.2.2))
    else none
noncomputable def st_X3_tryFrom (rec : (Nat → Int32) → Int32 → (Nat → Int32) → (Nat → Int32) → (Nat → Int32) → (Nat → Int32) → Int32 → Int32 → (Nat → Int32) → (Nat → Int32) → (Nat → Int32) → (Nat → Int32) → (Nat → Int32) → (Nat → Int32) → (Nat → Int32) → Int32 → (Nat → Int32) → (Nat → Int32) → Int32 → Int32 → Option (Int32 × (Nat → Int32) × (Nat → Int32) × (Nat → Int32) × (Nat → Int32) × (Nat → Int32) × Int32)) (t_ahead : Nat → Int32) (p1_deals : Int32) (p1_lawYears : Int32) (p1_borrower : Nat → Int32) (p1_borrowerGain : Nat → Int32) (p1_byYear : Nat → Int32) (p1_either : Nat → Int32) (p1_lender : Nat → Int32) (p1_lenderGain : Nat → Int32) (p1_limit : Nat → Int32) (p1_year : Nat → Int32) (p2 : Int32) (p3 : Int32) : ((Int32 × Int32 × Int32 × (Nat → Int32) × (Nat → Int32) × (Nat → Int32) × (Nat → Int32) × (Nat → Int32) × Int32)) → Option (((Int32 × Int32 × Int32 × (Nat → Int32) × (Nat → Int32) × (Nat → Int32) × (Nat → Int32) × (Nat → Int32) × Int32)) ⊕ (Int32 × (Nat → Int32) × (Nat → Int32) × (Nat → Int32) × (Nat → Int32) × (Nat → Int32) × Int32)) := fun s => match s with
  | (v4, v5, p1_memo_lawfulGain, p1_memo_lawfulWays, t_ways, t_trial_deal, t_trial_way, t_trial_foundNothing, t_trial_size) => bd_X3_tryFrom_0 rec t_ahead p1_deals p1_lawYears p1_borrower p1_borrowerGain p1_byYear p1_either p1_lender p1_lenderGain p1_limit p1_year p2 p3 v4 v5 p1_memo_lawfulGain p1_memo_lawfulWays t_ways t_trial_deal t_trial_way t_trial_foundNothing t_trial_size
noncomputable def gn_X3_tryFrom_0 (rec : (Nat → Int32) → Int32 → (Nat → Int32) → (Nat → Int32) → (Nat → Int32) → (Nat → Int32) → Int32 → Int32 → (Nat → Int32) → (Nat → Int32) → (Nat → Int32) → (Nat → Int32) → (Nat → Int32) → (Nat → Int32) → (Nat → Int32) → Int32 → (Nat → Int32) → (Nat → Int32) → Int32 → Int32 → Option (Int32 × (Nat → Int32) × (Nat → Int32) × (Nat → Int32) × (Nat → Int32) × (Nat → Int32) × Int32)) (t_ahead : Nat → Int32) (p1_deals : Int32) (p1_lawYears : Int32) (p1_borrower : Nat → Int32) (p1_borrowerGain : Nat → Int32) (p1_byYear : Nat → Int32) (p1_either : Nat → Int32) (p1_lender : Nat → Int32) (p1_lenderGain : Nat → Int32) (p1_limit : Nat → Int32) (p1_year : Nat → Int32) (p2 : Int32) (p3 : Int32) (v4 : Int32) (v5 : Int32) (p1_memo_lawfulGain : Int32) (p1_memo_lawfulWays : Nat → Int32) (t_ways : Nat → Int32) (t_trial_deal : Nat → Int32) (t_trial_way : Nat → Int32) (t_trial_foundNothing : Nat → Int32) (t_trial_size : Int32) : Option (Int32 × (Nat → Int32) × (Nat → Int32) × (Nat → Int32) × (Nat → Int32) × (Nat → Int32) × Int32) := lpC (st_X3_tryFrom rec t_ahead p1_deals p1_lawYears p1_borrower p1_borrowerGain p1_byYear p1_either p1_lender p1_lenderGain p1_limit p1_year p2 p3) ((v4, v5, p1_memo_lawfulGain, p1_memo_lawfulWays, t_ways, t_trial_deal, t_trial_way, t_trial_foundNothing, t_trial_size))
theorem gq_X3_tryFrom_0 (rec : (Nat → Int32) → Int32 → (Nat → Int32) → (Nat → Int32) → (Nat → Int32) → (Nat → Int32) → Int32 → Int32 → (Nat → Int32) → (Nat → Int32) → (Nat → Int32) → (Nat → Int32) → (Nat → Int32) → (Nat → Int32) → (Nat → Int32) → Int32 → (Nat → Int32) → (Nat → Int32) → Int32 → Int32 → Option (Int32 × (Nat → Int32) × (Nat → Int32) × (Nat → Int32) × (Nat → Int32) × (Nat → Int32) × Int32)) (t_ahead : Nat → Int32) (p1_deals : Int32) (p1_lawYears : Int32) (p1_borrower : Nat → Int32) (p1_borrowerGain : Nat → Int32) (p1_byYear : Nat → Int32) (p1_either : Nat → Int32) (p1_lender : Nat → Int32) (p1_lenderGain : Nat → Int32) (p1_limit : Nat → Int32) (p1_year : Nat → Int32) (p2 : Int32) (p3 : Int32) (v4 : Int32) (v5 : Int32) (p1_memo_lawfulGain : Int32) (p1_memo_lawfulWays : Nat → Int32) (t_ways : Nat → Int32) (t_trial_deal : Nat → Int32) (t_trial_way : Nat → Int32) (t_trial_foundNothing : Nat → Int32) (t_trial_size : Int32) : gn_X3_tryFrom_0 rec t_ahead p1_deals p1_lawYears p1_borrower p1_borrowerGain p1_byYear p1_either p1_lender p1_lenderGain p1_limit p1_year p2 p3 v4 v5 p1_memo_lawfulGain p1_memo_lawfulWays t_ways t_trial_deal t_trial_way t_trial_foundNothing t_trial_size =
    if (2 : Int32) < v5 then
      some (p1_memo_lawfulGain, p1_memo_lawfulWays, t_ways, t_trial_deal, t_trial_way, t_trial_foundNothing, t_trial_size)
    else
      if inb v4 12 = true then
      if v5 = 0 then
        Option.bind (rec t_ahead t_trial_size t_trial_deal t_trial_foundNothing t_trial_way (upd t_ways (v4).toNatClampNeg v5) p1_deals p1_lawYears p1_borrower p1_borrowerGain p1_byYear p1_either p1_lender p1_lenderGain p1_limit p1_memo_lawfulGain p1_memo_lawfulWays p1_year (p2 + 1) p3) fun q14 =>
        gn_X3_tryFrom_0 rec t_ahead p1_deals p1_lawYears p1_borrower p1_borrowerGain p1_byYear p1_either p1_lender p1_lenderGain p1_limit p1_year p2 p3 v4 (v5 + 1) q14.1 q14.2.1 q14.2.2.1 q14.2.2.2.1 q14.2.2.2.2.1 q14.2.2.2.2.2.1 q14.2.2.2.2.2.2
      else
        Option.bind (dn_X0_tryDeal t_trial_size t_trial_deal t_trial_foundNothing t_trial_way p1_lawYears p1_borrower p1_either p1_lender p1_limit p1_year v4 v5) fun q9 =>
        if q9.1 = 0 then
          Option.bind (dn_X10_bothShares p1_borrowerGain p1_lenderGain v4) fun q11 =>
          Option.bind (rec t_ahead q9.2.2.2.2 q9.2.1 q9.2.2.2.1 q9.2.2.1 (upd t_ways (v4).toNatClampNeg v5) p1_deals p1_lawYears p1_borrower p1_borrowerGain p1_byYear p1_either p1_lender p1_lenderGain p1_limit p1_memo_lawfulGain p1_memo_lawfulWays p1_year (p2 + 1) (p3 + q11)) fun q12 =>
          Option.bind (dn_X0_dropLast q12.2.2.2.2.2.2) fun q13 =>
          gn_X3_tryFrom_0 rec t_ahead p1_deals p1_lawYears p1_borrower p1_borrowerGain p1_byYear p1_either p1_lender p1_lenderGain p1_limit p1_year p2 p3 v4 (v5 + 1) q12.1 q12.2.1 q12.2.2.1 q12.2.2.2.1 q12.2.2.2.2.1 q12.2.2.2.2.2.1 q13
        else
          gn_X3_tryFrom_0 rec t_ahead p1_deals p1_lawYears p1_borrower p1_borrowerGain p1_byYear p1_either p1_lender p1_lenderGain p1_limit p1_year p2 p3 v4 (v5 + 1) p1_memo_lawfulGain p1_memo_lawfulWays (upd t_ways (v4).toNatClampNeg v5) q9.2.1 q9.2.2.1 q9.2.2.2.1 q9.2.2.2.2
      else none := by
  rw [gn_X3_tryFrom_0, lpC_eq]
  show lpO _ (bd_X3_tryFrom_0 rec t_ahead p1_deals p1_lawYears p1_borrower p1_borrowerGain p1_byYear p1_either p1_lender p1_lenderGain p1_limit p1_year p2 p3 v4 v5 p1_memo_lawfulGain p1_memo_lawfulWays t_ways t_trial_deal t_trial_way t_trial_foundNothing t_trial_size) = _
  unfold bd_X3_tryFrom_0
  simp only [lpO_ite, lpO_bind, lpO_none, lpO_l, lpO_r]
  try rfl
noncomputable def dx_X3_tryFrom (rec : (Nat → Int32) → Int32 → (Nat → Int32) → (Nat → Int32) → (Nat → Int32) → (Nat → Int32) → Int32 → Int32 → (Nat → Int32) → (Nat → Int32) → (Nat → Int32) → (Nat → Int32) → (Nat → Int32) → (Nat → Int32) → (Nat → Int32) → Int32 → (Nat → Int32) → (Nat → Int32) → Int32 → Int32 → Option (Int32 × (Nat → Int32) × (Nat → Int32) × (Nat → Int32) × (Nat → Int32) × (Nat → Int32) × Int32)) (t_ahead : Nat → Int32) (t_trial_size : Int32) (t_trial_deal : Nat → Int32) (t_trial_foundNothing : Nat → Int32) (t_trial_way : Nat → Int32) (t_ways : Nat → Int32) (p1_deals : Int32) (p1_lawYears : Int32) (p1_borrower : Nat → Int32) (p1_borrowerGain : Nat → Int32) (p1_byYear : Nat → Int32) (p1_either : Nat → Int32) (p1_lender : Nat → Int32) (p1_lenderGain : Nat → Int32) (p1_limit : Nat → Int32) (p1_memo_lawfulGain : Int32) (p1_memo_lawfulWays : Nat → Int32) (p1_year : Nat → Int32) (p2 : Int32) (p3 : Int32) : Option (Int32 × (Nat → Int32) × (Nat → Int32) × (Nat → Int32) × (Nat → Int32) × (Nat → Int32) × Int32) :=
  if (12 : Int32) < p2 then
    some (p1_memo_lawfulGain, p1_memo_lawfulWays, t_ways, t_trial_deal, t_trial_way, t_trial_foundNothing, t_trial_size)
  else
    if inb p2 13 = true then
    if p1_memo_lawfulGain < (p3 + (t_ahead (p2).toNatClampNeg)) then
      if p2 < p1_deals then
        if inb p2 30 = true then
        gn_X3_tryFrom_0 rec t_ahead p1_deals p1_lawYears p1_borrower p1_borrowerGain p1_byYear p1_either p1_lender p1_lenderGain p1_limit p1_year p2 p3 (p1_byYear (p2).toNatClampNeg) 0 p1_memo_lawfulGain p1_memo_lawfulWays t_ways t_trial_deal t_trial_way t_trial_foundNothing t_trial_size
        else none
      else
        some (p3, va_cpy t_ways p1_memo_lawfulWays (0 : Int32).toNatClampNeg (0 : Int32).toNatClampNeg (12 : Int32).toNatClampNeg, t_ways, t_trial_deal, t_trial_way, t_trial_foundNothing, t_trial_size)
    else
      some (p1_memo_lawfulGain, p1_memo_lawfulWays, t_ways, t_trial_deal, t_trial_way, t_trial_foundNothing, t_trial_size)
    else none
noncomputable def dn_X3_tryFrom : Nat → (Nat → Int32) → Int32 → (Nat → Int32) → (Nat → Int32) → (Nat → Int32) → (Nat → Int32) → Int32 → Int32 → (Nat → Int32) → (Nat → Int32) → (Nat → Int32) → (Nat → Int32) → (Nat → Int32) → (Nat → Int32) → (Nat → Int32) → Int32 → (Nat → Int32) → (Nat → Int32) → Int32 → Int32 → Option (Int32 × (Nat → Int32) × (Nat → Int32) × (Nat → Int32) × (Nat → Int32) × (Nat → Int32) × Int32)
  | 0, _, _, _, _, _, _, _, _, _, _, _, _, _, _, _, _, _, _, _, _ => none
  | d + 1, t_ahead, t_trial_size, t_trial_deal, t_trial_foundNothing, t_trial_way, t_ways, p1_deals, p1_lawYears, p1_borrower, p1_borrowerGain, p1_byYear, p1_either, p1_lender, p1_lenderGain, p1_limit, p1_memo_lawfulGain, p1_memo_lawfulWays, p1_year, p2, p3 => dx_X3_tryFrom (dn_X3_tryFrom d) t_ahead t_trial_size t_trial_deal t_trial_foundNothing t_trial_way t_ways p1_deals p1_lawYears p1_borrower p1_borrowerGain p1_byYear p1_either p1_lender p1_lenderGain p1_limit p1_memo_lawfulGain p1_memo_lawfulWays p1_year p2 p3
noncomputable def bd_X3_reckon_0 (p1_deals : Int32) (p1_lawYears : Int32) (p1_borrower : Nat → Int32) (p1_borrowerGain : Nat → Int32) (p1_byYear : Nat → Int32) (p1_either : Nat → Int32) (p1_lender : Nat → Int32) (p1_lenderGain : Nat → Int32) (p1_limit : Nat → Int32) (p1_year : Nat → Int32) (t_ahead : Nat → Int32) (t_toldWays : Nat → Int32) (t_toldDeals : Int32) (t_trial_size : Int32) (p1_memo_lawfulGain : Int32) (p1_memo_lawfulWays : Nat → Int32) (t_ways : Nat → Int32) (t_trial_deal : Nat → Int32) (t_trial_way : Nat → Int32) (t_trial_foundNothing : Nat → Int32) : Option ((((Nat → Int32) × (Nat → Int32) × Int32 × Int32 × Int32 × (Nat → Int32) × (Nat → Int32) × (Nat → Int32) × (Nat → Int32) × (Nat → Int32)) ⊕ ((Int32 × (Nat → Int32) × (Nat → Int32) × Int32 × Int32 × Int32 × (Nat → Int32) × (Nat → Int32) × (Nat → Int32) × (Nat → Int32) × (Nat → Int32)))) ⊕ (Int32 × (Nat → Int32) × (Nat → Int32) × Int32 × Int32 × Int32 × (Nat → Int32) × (Nat → Int32) × (Nat → Int32) × (Nat → Int32) × (Nat → Int32))) :=
  some (.inr (p1_memo_lawfulGain, t_ahead, va_cpy p1_memo_lawfulWays t_toldWays (0 : Int32).toNatClampNeg (0 : Int32).toNatClampNeg (12 : Int32).toNatClampNeg, p1_deals, t_trial_size, p1_memo_lawfulGain, p1_memo_lawfulWays, t_ways, t_trial_deal, t_trial_way, t_trial_foundNothing))
noncomputable def bd_X3_reckon_1 (p1_deals : Int32) (p1_lawYears : Int32) (p1_borrower : Nat → Int32) (p1_borrowerGain : Nat → Int32) (p1_byYear : Nat → Int32) (p1_either : Nat → Int32) (p1_lender : Nat → Int32) (p1_lenderGain : Nat → Int32) (p1_limit : Nat → Int32) (p1_year : Nat → Int32) (v2 : Int32) (t_ahead : Nat → Int32) (t_toldWays : Nat → Int32) (t_toldDeals : Int32) (t_trial_size : Int32) (p1_memo_lawfulGain : Int32) (p1_memo_lawfulWays : Nat → Int32) (t_ways : Nat → Int32) (t_trial_deal : Nat → Int32) (t_trial_way : Nat → Int32) (t_trial_foundNothing : Nat → Int32) : Option ((((Nat → Int32) × (Nat → Int32) × Int32 × Int32 × Int32 × (Nat → Int32) × (Nat → Int32) × (Nat → Int32) × (Nat → Int32) × (Nat → Int32)) ⊕ ((Int32 × (Nat → Int32) × (Nat → Int32) × Int32 × Int32 × Int32 × (Nat → Int32) × (Nat → Int32) × (Nat → Int32) × (Nat → Int32) × (Nat → Int32)))) ⊕ (Int32 × (Nat → Int32) × (Nat → Int32) × Int32 × Int32 × Int32 × (Nat → Int32) × (Nat → Int32) × (Nat → Int32) × (Nat → Int32) × (Nat → Int32))) :=
  if v2 < 0 then
    Option.bind (dn_X0_clear) fun q4 =>
    Option.bind (dn_X3_tryFrom 14 t_ahead q4 t_trial_deal t_trial_foundNothing t_trial_way t_ways p1_deals p1_lawYears p1_borrower p1_borrowerGain p1_byYear p1_either p1_lender p1_lenderGain p1_limit p1_memo_lawfulGain p1_memo_lawfulWays p1_year 0 0) fun q5 =>
    some (.inl (.inl (t_ahead, t_toldWays, t_toldDeals, q5.2.2.2.2.2.2, q5.1, q5.2.1, q5.2.2.1, q5.2.2.2.1, q5.2.2.2.2.1, q5.2.2.2.2.2.1)))
  else
    if inb (v2 + 1) 13 = true then
    if inb v2 30 = true then
    Option.bind (dn_X10_bothShares p1_borrowerGain p1_lenderGain (p1_byYear (v2).toNatClampNeg)) fun q8 =>
    if inb v2 13 = true then
    some (.inl (.inr ((v2 + (-1), upd t_ahead (v2).toNatClampNeg ((t_ahead ((v2 + 1)).toNatClampNeg) + q8), t_toldWays, t_toldDeals, t_trial_size, p1_memo_lawfulGain, p1_memo_lawfulWays, t_ways, t_trial_deal, t_trial_way, t_trial_foundNothing))))
    else none
    else none
    else none
noncomputable def st_X3_reckon (p1_deals : Int32) (p1_lawYears : Int32) (p1_borrower : Nat → Int32) (p1_borrowerGain : Nat → Int32) (p1_byYear : Nat → Int32) (p1_either : Nat → Int32) (p1_lender : Nat → Int32) (p1_lenderGain : Nat → Int32) (p1_limit : Nat → Int32) (p1_year : Nat → Int32) : (((Nat → Int32) × (Nat → Int32) × Int32 × Int32 × Int32 × (Nat → Int32) × (Nat → Int32) × (Nat → Int32) × (Nat → Int32) × (Nat → Int32)) ⊕ ((Int32 × (Nat → Int32) × (Nat → Int32) × Int32 × Int32 × Int32 × (Nat → Int32) × (Nat → Int32) × (Nat → Int32) × (Nat → Int32) × (Nat → Int32)))) → Option ((((Nat → Int32) × (Nat → Int32) × Int32 × Int32 × Int32 × (Nat → Int32) × (Nat → Int32) × (Nat → Int32) × (Nat → Int32) × (Nat → Int32)) ⊕ ((Int32 × (Nat → Int32) × (Nat → Int32) × Int32 × Int32 × Int32 × (Nat → Int32) × (Nat → Int32) × (Nat → Int32) × (Nat → Int32) × (Nat → Int32)))) ⊕ (Int32 × (Nat → Int32) × (Nat → Int32) × Int32 × Int32 × Int32 × (Nat → Int32) × (Nat → Int32) × (Nat → Int32) × (Nat → Int32) × (Nat → Int32))) := fun s => match s with
  | .inl (t_ahead, t_toldWays, t_toldDeals, t_trial_size, p1_memo_lawfulGain, p1_memo_lawfulWays, t_ways, t_trial_deal, t_trial_way, t_trial_foundNothing) => bd_X3_reckon_0 p1_deals p1_lawYears p1_borrower p1_borrowerGain p1_byYear p1_either p1_lender p1_lenderGain p1_limit p1_year t_ahead t_toldWays t_toldDeals t_trial_size p1_memo_lawfulGain p1_memo_lawfulWays t_ways t_trial_deal t_trial_way t_trial_foundNothing
  | .inr ((v2, t_ahead, t_toldWays, t_toldDeals, t_trial_size, p1_memo_lawfulGain, p1_memo_lawfulWays, t_ways, t_trial_deal, t_trial_way, t_trial_foundNothing)) => bd_X3_reckon_1 p1_deals p1_lawYears p1_borrower p1_borrowerGain p1_byYear p1_either p1_lender p1_lenderGain p1_limit p1_year v2 t_ahead t_toldWays t_toldDeals t_trial_size p1_memo_lawfulGain p1_memo_lawfulWays t_ways t_trial_deal t_trial_way t_trial_foundNothing
noncomputable def gn_X3_reckon_0 (p1_deals : Int32) (p1_lawYears : Int32) (p1_borrower : Nat → Int32) (p1_borrowerGain : Nat → Int32) (p1_byYear : Nat → Int32) (p1_either : Nat → Int32) (p1_lender : Nat → Int32) (p1_lenderGain : Nat → Int32) (p1_limit : Nat → Int32) (p1_year : Nat → Int32) (t_ahead : Nat → Int32) (t_toldWays : Nat → Int32) (t_toldDeals : Int32) (t_trial_size : Int32) (p1_memo_lawfulGain : Int32) (p1_memo_lawfulWays : Nat → Int32) (t_ways : Nat → Int32) (t_trial_deal : Nat → Int32) (t_trial_way : Nat → Int32) (t_trial_foundNothing : Nat → Int32) : Option (Int32 × (Nat → Int32) × (Nat → Int32) × Int32 × Int32 × Int32 × (Nat → Int32) × (Nat → Int32) × (Nat → Int32) × (Nat → Int32) × (Nat → Int32)) := lpC (st_X3_reckon p1_deals p1_lawYears p1_borrower p1_borrowerGain p1_byYear p1_either p1_lender p1_lenderGain p1_limit p1_year) (.inl (t_ahead, t_toldWays, t_toldDeals, t_trial_size, p1_memo_lawfulGain, p1_memo_lawfulWays, t_ways, t_trial_deal, t_trial_way, t_trial_foundNothing))
noncomputable def gn_X3_reckon_1 (p1_deals : Int32) (p1_lawYears : Int32) (p1_borrower : Nat → Int32) (p1_borrowerGain : Nat → Int32) (p1_byYear : Nat → Int32) (p1_either : Nat → Int32) (p1_lender : Nat → Int32) (p1_lenderGain : Nat → Int32) (p1_limit : Nat → Int32) (p1_year : Nat → Int32) (v2 : Int32) (t_ahead : Nat → Int32) (t_toldWays : Nat → Int32) (t_toldDeals : Int32) (t_trial_size : Int32) (p1_memo_lawfulGain : Int32) (p1_memo_lawfulWays : Nat → Int32) (t_ways : Nat → Int32) (t_trial_deal : Nat → Int32) (t_trial_way : Nat → Int32) (t_trial_foundNothing : Nat → Int32) : Option (Int32 × (Nat → Int32) × (Nat → Int32) × Int32 × Int32 × Int32 × (Nat → Int32) × (Nat → Int32) × (Nat → Int32) × (Nat → Int32) × (Nat → Int32)) := lpC (st_X3_reckon p1_deals p1_lawYears p1_borrower p1_borrowerGain p1_byYear p1_either p1_lender p1_lenderGain p1_limit p1_year) (.inr ((v2, t_ahead, t_toldWays, t_toldDeals, t_trial_size, p1_memo_lawfulGain, p1_memo_lawfulWays, t_ways, t_trial_deal, t_trial_way, t_trial_foundNothing)))
theorem gq_X3_reckon_0 (p1_deals : Int32) (p1_lawYears : Int32) (p1_borrower : Nat → Int32) (p1_borrowerGain : Nat → Int32) (p1_byYear : Nat → Int32) (p1_either : Nat → Int32) (p1_lender : Nat → Int32) (p1_lenderGain : Nat → Int32) (p1_limit : Nat → Int32) (p1_year : Nat → Int32) (t_ahead : Nat → Int32) (t_toldWays : Nat → Int32) (t_toldDeals : Int32) (t_trial_size : Int32) (p1_memo_lawfulGain : Int32) (p1_memo_lawfulWays : Nat → Int32) (t_ways : Nat → Int32) (t_trial_deal : Nat → Int32) (t_trial_way : Nat → Int32) (t_trial_foundNothing : Nat → Int32) : gn_X3_reckon_0 p1_deals p1_lawYears p1_borrower p1_borrowerGain p1_byYear p1_either p1_lender p1_lenderGain p1_limit p1_year t_ahead t_toldWays t_toldDeals t_trial_size p1_memo_lawfulGain p1_memo_lawfulWays t_ways t_trial_deal t_trial_way t_trial_foundNothing =
    some (p1_memo_lawfulGain, t_ahead, va_cpy p1_memo_lawfulWays t_toldWays (0 : Int32).toNatClampNeg (0 : Int32).toNatClampNeg (12 : Int32).toNatClampNeg, p1_deals, t_trial_size, p1_memo_lawfulGain, p1_memo_lawfulWays, t_ways, t_trial_deal, t_trial_way, t_trial_foundNothing) := by
  rw [gn_X3_reckon_0, lpC_eq]
  show lpO _ (bd_X3_reckon_0 p1_deals p1_lawYears p1_borrower p1_borrowerGain p1_byYear p1_either p1_lender p1_lenderGain p1_limit p1_year t_ahead t_toldWays t_toldDeals t_trial_size p1_memo_lawfulGain p1_memo_lawfulWays t_ways t_trial_deal t_trial_way t_trial_foundNothing) = _
  unfold bd_X3_reckon_0
  simp only [lpO_ite, lpO_bind, lpO_none, lpO_l, lpO_r]
  try rfl
theorem gq_X3_reckon_1 (p1_deals : Int32) (p1_lawYears : Int32) (p1_borrower : Nat → Int32) (p1_borrowerGain : Nat → Int32) (p1_byYear : Nat → Int32) (p1_either : Nat → Int32) (p1_lender : Nat → Int32) (p1_lenderGain : Nat → Int32) (p1_limit : Nat → Int32) (p1_year : Nat → Int32) (v2 : Int32) (t_ahead : Nat → Int32) (t_toldWays : Nat → Int32) (t_toldDeals : Int32) (t_trial_size : Int32) (p1_memo_lawfulGain : Int32) (p1_memo_lawfulWays : Nat → Int32) (t_ways : Nat → Int32) (t_trial_deal : Nat → Int32) (t_trial_way : Nat → Int32) (t_trial_foundNothing : Nat → Int32) : gn_X3_reckon_1 p1_deals p1_lawYears p1_borrower p1_borrowerGain p1_byYear p1_either p1_lender p1_lenderGain p1_limit p1_year v2 t_ahead t_toldWays t_toldDeals t_trial_size p1_memo_lawfulGain p1_memo_lawfulWays t_ways t_trial_deal t_trial_way t_trial_foundNothing =
    if v2 < 0 then
      Option.bind (dn_X0_clear) fun q4 =>
      Option.bind (dn_X3_tryFrom 14 t_ahead q4 t_trial_deal t_trial_foundNothing t_trial_way t_ways p1_deals p1_lawYears p1_borrower p1_borrowerGain p1_byYear p1_either p1_lender p1_lenderGain p1_limit p1_memo_lawfulGain p1_memo_lawfulWays p1_year 0 0) fun q5 =>
      gn_X3_reckon_0 p1_deals p1_lawYears p1_borrower p1_borrowerGain p1_byYear p1_either p1_lender p1_lenderGain p1_limit p1_year t_ahead t_toldWays t_toldDeals q5.2.2.2.2.2.2 q5.1 q5.2.1 q5.2.2.1 q5.2.2.2.1 q5.2.2.2.2.1 q5.2.2.2.2.2.1
    else
      if inb (v2 + 1) 13 = true then
      if inb v2 30 = true then
      Option.bind (dn_X10_bothShares p1_borrowerGain p1_lenderGain (p1_byYear (v2).toNatClampNeg)) fun q8 =>
      if inb v2 13 = true then
      gn_X3_reckon_1 p1_deals p1_lawYears p1_borrower p1_borrowerGain p1_byYear p1_either p1_lender p1_lenderGain p1_limit p1_year (v2 + (-1)) (upd t_ahead (v2).toNatClampNeg ((t_ahead ((v2 + 1)).toNatClampNeg) + q8)) t_toldWays t_toldDeals t_trial_size p1_memo_lawfulGain p1_memo_lawfulWays t_ways t_trial_deal t_trial_way t_trial_foundNothing
      else none
      else none
      else none := by
  rw [gn_X3_reckon_1, lpC_eq]
  show lpO _ (bd_X3_reckon_1 p1_deals p1_lawYears p1_borrower p1_borrowerGain p1_byYear p1_either p1_lender p1_lenderGain p1_limit p1_year v2 t_ahead t_toldWays t_toldDeals t_trial_size p1_memo_lawfulGain p1_memo_lawfulWays t_ways t_trial_deal t_trial_way t_trial_foundNothing) = _
  unfold bd_X3_reckon_1
  simp only [lpO_ite, lpO_bind, lpO_none, lpO_l, lpO_r]
  try rfl
noncomputable def dn_X3_reckon (t_toldDeals : Int32) (t_ahead : Nat → Int32) (t_toldWays : Nat → Int32) (t_trial_size : Int32) (t_trial_deal : Nat → Int32) (t_trial_foundNothing : Nat → Int32) (t_trial_way : Nat → Int32) (t_ways : Nat → Int32) (p1_deals : Int32) (p1_lawYears : Int32) (p1_borrower : Nat → Int32) (p1_borrowerGain : Nat → Int32) (p1_byYear : Nat → Int32) (p1_either : Nat → Int32) (p1_lender : Nat → Int32) (p1_lenderGain : Nat → Int32) (p1_limit : Nat → Int32) (p1_memo_lawfulGain : Int32) (p1_memo_lawfulWays : Nat → Int32) (p1_year : Nat → Int32) : Option (Int32 × (Nat → Int32) × (Nat → Int32) × Int32 × Int32 × Int32 × (Nat → Int32) × (Nat → Int32) × (Nat → Int32) × (Nat → Int32) × (Nat → Int32)) :=
  if p1_memo_lawfulGain = (-1) then
    if inb p1_deals 13 = true then
    gn_X3_reckon_1 p1_deals p1_lawYears p1_borrower p1_borrowerGain p1_byYear p1_either p1_lender p1_lenderGain p1_limit p1_year (p1_deals - 1) (upd t_ahead (p1_deals).toNatClampNeg 0) t_toldWays t_toldDeals t_trial_size p1_memo_lawfulGain p1_memo_lawfulWays t_ways t_trial_deal t_trial_way t_trial_foundNothing
    else none
  else
    gn_X3_reckon_0 p1_deals p1_lawYears p1_borrower p1_borrowerGain p1_byYear p1_either p1_lender p1_lenderGain p1_limit p1_year t_ahead t_toldWays t_toldDeals t_trial_size p1_memo_lawfulGain p1_memo_lawfulWays t_ways t_trial_deal t_trial_way t_trial_foundNothing
noncomputable def dn_X4_addPair (t_pairs : Int32) (t_met : Int32) (t_first : Nat → Int32) (t_near : Nat → Int32) (t_second : Nat → Int32) (p1 : Int32) (p2 : Int32) : Option ((Nat → Int32) × (Nat → Int32) × Int32 × (Nat → Int32) × Int32) :=
  if inb t_pairs 20 = true then
  if inb t_pairs 20 = true then
  if inb p1 10 = true then
  if inb p1 10 = true then
  if inb p2 10 = true then
  if inb p2 10 = true then
  some (upd t_first (t_pairs).toNatClampNeg p1, upd t_second (t_pairs).toNatClampNeg p2, t_pairs + 1, upd (upd t_near (p1).toNatClampNeg ((t_near (p1).toNatClampNeg) ||| ((1 : Int32) <<< (p2 &&& 31)))) (p2).toNatClampNeg (((upd t_near (p1).toNatClampNeg ((t_near (p1).toNatClampNeg) ||| ((1 : Int32) <<< (p2 &&& 31)))) (p2).toNatClampNeg) ||| ((1 : Int32) <<< (p1 &&& 31))), t_met ||| (((1 : Int32) <<< (p1 &&& 31)) ||| ((1 : Int32) <<< (p2 &&& 31))))
  else none
  else none
  else none
  else none
  else none
  else none
noncomputable def bd_X4_take_0 (p1_size : Int32) (p1_bytes : Nat → Int32) (p2 : Int32) (v3 : Int32) (t_pairs : Int32) (t_met : Int32) (t_near : Nat → Int32) (t_first : Nat → Int32) (t_second : Nat → Int32) : Option (((Int32 × Int32 × Int32 × (Nat → Int32) × (Nat → Int32) × (Nat → Int32))) ⊕ (Bool × Int32 × Int32 × (Nat → Int32) × (Nat → Int32) × (Nat → Int32))) :=
  if p1_size ≤ (v3 + 1) then
    some (.inr (true, t_pairs, t_met, t_near, t_first, t_second))
  else
    if inb v3 940 = true then
    if inb (v3 + 1) 940 = true then
    if p2 ≤ ((p1_bytes (v3).toNatClampNeg) &&& 255) then
      some (.inr (false, t_pairs, t_met, t_near, t_first, t_second))
    else
      if p2 ≤ ((p1_bytes ((v3 + 1)).toNatClampNeg) &&& 255) then
        some (.inr (false, t_pairs, t_met, t_near, t_first, t_second))
      else
        if ((p1_bytes (v3).toNatClampNeg) &&& 255) = ((p1_bytes ((v3 + 1)).toNatClampNeg) &&& 255) then
          some (.inr (false, t_pairs, t_met, t_near, t_first, t_second))
        else
          Option.bind (dn_X4_addPair t_pairs t_met t_first t_near t_second ((p1_bytes (v3).toNatClampNeg) &&& 255) ((p1_bytes ((v3 + 1)).toNatClampNeg) &&& 255)) fun q10 =>
          some (.inl (v3 + 2, q10.2.2.1, q10.2.2.2.2, q10.2.2.2.1, q10.1, q10.2.1))
    else none
    else none
noncomputable def st_X4_take (p1_size : Int32) (p1_bytes : Nat → Int32) (p2 : Int32) : ((Int32 × Int32 × Int32 × (Nat → Int32) × (Nat → Int32) × (Nat → Int32))) → Option (((Int32 × Int32 × Int32 × (Nat → Int32) × (Nat → Int32) × (Nat → Int32))) ⊕ (Bool × Int32 × Int32 × (Nat → Int32) × (Nat → Int32) × (Nat → Int32))) := fun s => match s with
  | (v3, t_pairs, t_met, t_near, t_first, t_second) => bd_X4_take_0 p1_size p1_bytes p2 v3 t_pairs t_met t_near t_first t_second
noncomputable def gn_X4_take_0 (p1_size : Int32) (p1_bytes : Nat → Int32) (p2 : Int32) (v3 : Int32) (t_pairs : Int32) (t_met : Int32) (t_near : Nat → Int32) (t_first : Nat → Int32) (t_second : Nat → Int32) : Option (Bool × Int32 × Int32 × (Nat → Int32) × (Nat → Int32) × (Nat → Int32)) := lpC (st_X4_take p1_size p1_bytes p2) ((v3, t_pairs, t_met, t_near, t_first, t_second))
theorem gq_X4_take_0 (p1_size : Int32) (p1_bytes : Nat → Int32) (p2 : Int32) (v3 : Int32) (t_pairs : Int32) (t_met : Int32) (t_near : Nat → Int32) (t_first : Nat → Int32) (t_second : Nat → Int32) : gn_X4_take_0 p1_size p1_bytes p2 v3 t_pairs t_met t_near t_first t_second =
    if p1_size ≤ (v3 + 1) then
      some (true, t_pairs, t_met, t_near, t_first, t_second)
    else
      if inb v3 940 = true then
      if inb (v3 + 1) 940 = true then
      if p2 ≤ ((p1_bytes (v3).toNatClampNeg) &&& 255) then
        some (false, t_pairs, t_met, t_near, t_first, t_second)
      else
        if p2 ≤ ((p1_bytes ((v3 + 1)).toNatClampNeg) &&& 255) then
          some (false, t_pairs, t_met, t_near, t_first, t_second)
        else
          if ((p1_bytes (v3).toNatClampNeg) &&& 255) = ((p1_bytes ((v3 + 1)).toNatClampNeg) &&& 255) then
            some (false, t_pairs, t_met, t_near, t_first, t_second)
          else
            Option.bind (dn_X4_addPair t_pairs t_met t_first t_near t_second ((p1_bytes (v3).toNatClampNeg) &&& 255) ((p1_bytes ((v3 + 1)).toNatClampNeg) &&& 255)) fun q10 =>
            gn_X4_take_0 p1_size p1_bytes p2 (v3 + 2) q10.2.2.1 q10.2.2.2.2 q10.2.2.2.1 q10.1 q10.2.1
      else none
      else none := by
  rw [gn_X4_take_0, lpC_eq]
  show lpO _ (bd_X4_take_0 p1_size p1_bytes p2 v3 t_pairs t_met t_near t_first t_second) = _
  unfold bd_X4_take_0
  simp only [lpO_ite, lpO_bind, lpO_none, lpO_l, lpO_r]
  try rfl
noncomputable def dn_X4_take (t_first : Nat → Int32) (t_near : Nat → Int32) (t_second : Nat → Int32) (p1_size : Int32) (p1_bytes : Nat → Int32) (p2 : Int32) : Option (Bool × Int32 × Int32 × (Nat → Int32) × (Nat → Int32) × (Nat → Int32)) :=
  if (p1_size - p1_size / 2 * 2) = 0 then
    if p1_size ≤ 40 then
      gn_X4_take_0 p1_size p1_bytes p2 0 0 0 (jfill 10 t_near 0) t_first t_second
    else
      some (false, 0, 0, jfill 10 t_near 0, t_first, t_second)
  else
    some (false, 0, 0, jfill 10 t_near 0, t_first, t_second)
noncomputable def bd_X4_nearAny_0 (t_near : Nat → Int32) (p1 : Int32) (v2 : Int32) (v3 : Int32) : Option (((Int32 × Int32)) ⊕ (Int32)) :=
  if (10 : Int32) ≤ v3 then
    some (.inr v2)
  else
    if ((p1 >>> (v3 &&& 31)) &&& 1) = 1 then
      if inb v3 10 = true then
      some (.inl (v2 ||| (t_near (v3).toNatClampNeg), v3 + 1))
      else none
    else
      some (.inl (v2, v3 + 1))
noncomputable def st_X4_nearAny (t_near : Nat → Int32) (p1 : Int32) : ((Int32 × Int32)) → Option (((Int32 × Int32)) ⊕ (Int32)) := fun s => match s with
  | (v2, v3) => bd_X4_nearAny_0 t_near p1 v2 v3
noncomputable def gn_X4_nearAny_0 (t_near : Nat → Int32) (p1 : Int32) (v2 : Int32) (v3 : Int32) : Option (Int32) := lpC (st_X4_nearAny t_near p1) ((v2, v3))
theorem gq_X4_nearAny_0 (t_near : Nat → Int32) (p1 : Int32) (v2 : Int32) (v3 : Int32) : gn_X4_nearAny_0 t_near p1 v2 v3 =
    if (10 : Int32) ≤ v3 then
      some v2
    else
      if ((p1 >>> (v3 &&& 31)) &&& 1) = 1 then
        if inb v3 10 = true then
        gn_X4_nearAny_0 t_near p1 (v2 ||| (t_near (v3).toNatClampNeg)) (v3 + 1)
        else none
      else
        gn_X4_nearAny_0 t_near p1 v2 (v3 + 1) := by
  rw [gn_X4_nearAny_0, lpC_eq]
  show lpO _ (bd_X4_nearAny_0 t_near p1 v2 v3) = _
  unfold bd_X4_nearAny_0
  simp only [lpO_ite, lpO_bind, lpO_none, lpO_l, lpO_r]
  try rfl
noncomputable def dn_X4_nearAny (t_near : Nat → Int32) (p1 : Int32) : Option (Int32) :=
  gn_X4_nearAny_0 t_near p1 0 0
noncomputable def bd_X4_spreadFrom_0 (t_near : Nat → Int32) (v2 : Int32) (v3 : Int32) (t_likeSide : Int32) (t_otherSide : Int32) : Option (((Int32 × Int32 × Int32 × Int32)) ⊕ (Int32 × Int32)) :=
  if (20 : Int32) < v3 then
    some (.inr (t_likeSide, t_otherSide))
  else
    if v2 = t_likeSide then
      some (.inr (t_likeSide, t_otherSide))
    else
      Option.bind (dn_X4_nearAny t_near t_likeSide) fun q3 =>
      Option.bind (dn_X4_nearAny t_near (t_otherSide ||| q3)) fun q4 =>
      some (.inl (t_likeSide, v3 + 1, t_likeSide ||| q4, t_otherSide ||| q3))
noncomputable def st_X4_spreadFrom (t_near : Nat → Int32) : ((Int32 × Int32 × Int32 × Int32)) → Option (((Int32 × Int32 × Int32 × Int32)) ⊕ (Int32 × Int32)) := fun s => match s with
  | (v2, v3, t_likeSide, t_otherSide) => bd_X4_spreadFrom_0 t_near v2 v3 t_likeSide t_otherSide
noncomputable def gn_X4_spreadFrom_0 (t_near : Nat → Int32) (v2 : Int32) (v3 : Int32) (t_likeSide : Int32) (t_otherSide : Int32) : Option (Int32 × Int32) := lpC (st_X4_spreadFrom t_near) ((v2, v3, t_likeSide, t_otherSide))
theorem gq_X4_spreadFrom_0 (t_near : Nat → Int32) (v2 : Int32) (v3 : Int32) (t_likeSide : Int32) (t_otherSide : Int32) : gn_X4_spreadFrom_0 t_near v2 v3 t_likeSide t_otherSide =
    if (20 : Int32) < v3 then
      some (t_likeSide, t_otherSide)
    else
      if v2 = t_likeSide then
        some (t_likeSide, t_otherSide)
      else
        Option.bind (dn_X4_nearAny t_near t_likeSide) fun q3 =>
        Option.bind (dn_X4_nearAny t_near (t_otherSide ||| q3)) fun q4 =>
        gn_X4_spreadFrom_0 t_near t_likeSide (v3 + 1) (t_likeSide ||| q4) (t_otherSide ||| q3) := by
  rw [gn_X4_spreadFrom_0, lpC_eq]
  show lpO _ (bd_X4_spreadFrom_0 t_near v2 v3 t_likeSide t_otherSide) = _
  unfold bd_X4_spreadFrom_0
  simp only [lpO_ite, lpO_bind, lpO_none, lpO_l, lpO_r]
  try rfl
noncomputable def dn_X4_spreadFrom (t_near : Nat → Int32) (p1 : Int32) : Option (Int32 × Int32) :=
  gn_X4_spreadFrom_0 t_near 0 0 p1 0
noncomputable def bd_X4_waysToBe_0 (t_near : Nat → Int32) (v1 : Int32) (v2 : Int32) (v3 : Int32) (t_likeSide : Int32) (t_otherSide : Int32) : Option (((Int32 × Int32 × Int32 × Int32 × Int32)) ⊕ (Int32 × Int32 × Int32)) :=
  if (10 : Int32) ≤ v3 then
    some (.inr (v1, t_likeSide, t_otherSide))
  else
    if v2 = 0 then
      some (.inr (v1, t_likeSide, t_otherSide))
    else
      Option.bind (dn_X4_spreadFrom t_near (v2 &&& (-v2))) fun q3 =>
      if (q3.1 &&& q3.2) = 0 then
        some (.inl (v1 * 2, v2 &&& ((q3.1 ||| q3.2) ^^^ (-1)), v3 + 1, q3.1, q3.2))
      else
        some (.inr (0, q3.1, q3.2))
noncomputable def st_X4_waysToBe (t_near : Nat → Int32) : ((Int32 × Int32 × Int32 × Int32 × Int32)) → Option (((Int32 × Int32 × Int32 × Int32 × Int32)) ⊕ (Int32 × Int32 × Int32)) := fun s => match s with
  | (v1, v2, v3, t_likeSide, t_otherSide) => bd_X4_waysToBe_0 t_near v1 v2 v3 t_likeSide t_otherSide
noncomputable def gn_X4_waysToBe_0 (t_near : Nat → Int32) (v1 : Int32) (v2 : Int32) (v3 : Int32) (t_likeSide : Int32) (t_otherSide : Int32) : Option (Int32 × Int32 × Int32) := lpC (st_X4_waysToBe t_near) ((v1, v2, v3, t_likeSide, t_otherSide))
theorem gq_X4_waysToBe_0 (t_near : Nat → Int32) (v1 : Int32) (v2 : Int32) (v3 : Int32) (t_likeSide : Int32) (t_otherSide : Int32) : gn_X4_waysToBe_0 t_near v1 v2 v3 t_likeSide t_otherSide =
    if (10 : Int32) ≤ v3 then
      some (v1, t_likeSide, t_otherSide)
    else
      if v2 = 0 then
        some (v1, t_likeSide, t_otherSide)
      else
        Option.bind (dn_X4_spreadFrom t_near (v2 &&& (-v2))) fun q3 =>
        if (q3.1 &&& q3.2) = 0 then
          gn_X4_waysToBe_0 t_near (v1 * 2) (v2 &&& ((q3.1 ||| q3.2) ^^^ (-1))) (v3 + 1) q3.1 q3.2
        else
          some (0, q3.1, q3.2) := by
  rw [gn_X4_waysToBe_0, lpC_eq]
  show lpO _ (bd_X4_waysToBe_0 t_near v1 v2 v3 t_likeSide t_otherSide) = _
  unfold bd_X4_waysToBe_0
  simp only [lpO_ite, lpO_bind, lpO_none, lpO_l, lpO_r]
  try rfl
noncomputable def dn_X4_waysToBe (t_met : Int32) (t_likeSide : Int32) (t_otherSide : Int32) (t_near : Nat → Int32) : Option (Int32 × Int32 × Int32) :=
  gn_X4_waysToBe_0 t_near 1 t_met 0 t_likeSide t_otherSide
noncomputable def dn_X4_bound (t_met : Int32) (t_likeSide : Int32) (t_otherSide : Int32) (t_near : Nat → Int32) (p1 : Int32) : Option (Int32 × Int32 × Int32) :=
  if t_met = 0 then
    some ((-1), t_likeSide, t_otherSide)
  else
    Option.bind (dn_X4_waysToBe t_met t_likeSide t_otherSide t_near) fun q2 =>
    if q2.1 = 0 then
      some ((-1), q2.2.1, q2.2.2)
    else
      Option.bind (dn_X4_spreadFrom t_near (t_met &&& (-t_met))) fun q4 =>
      if p1 = 0 then
        some (q4.2, q4.1, q4.2)
      else
        some (q4.1, q4.1, q4.2)
noncomputable def bd_X4_brokenBy_0 (t_pairs : Int32) (t_first : Nat → Int32) (t_second : Nat → Int32) (p1 : Int32) (v2 : Int32) (v3 : Int32) : Option (((Int32 × Int32)) ⊕ (Int32)) :=
  if t_pairs ≤ v3 then
    some (.inr v2)
  else
    if inb v3 20 = true then
    if inb v3 20 = true then
    if ((p1 >>> ((t_first (v3).toNatClampNeg) &&& 31)) &&& 1) = ((p1 >>> ((t_second (v3).toNatClampNeg) &&& 31)) &&& 1) then
      some (.inl (v2 ||| ((1 : Int32) <<< (v3 &&& 31)), v3 + 1))
    else
      some (.inl (v2, v3 + 1))
    else none
    else none
noncomputable def st_X4_brokenBy (t_pairs : Int32) (t_first : Nat → Int32) (t_second : Nat → Int32) (p1 : Int32) : ((Int32 × Int32)) → Option (((Int32 × Int32)) ⊕ (Int32)) := fun s => match s with
  | (v2, v3) => bd_X4_brokenBy_0 t_pairs t_first t_second p1 v2 v3
noncomputable def gn_X4_brokenBy_0 (t_pairs : Int32) (t_first : Nat → Int32) (t_second : Nat → Int32) (p1 : Int32) (v2 : Int32) (v3 : Int32) : Option (Int32) := lpC (st_X4_brokenBy t_pairs t_first t_second p1) ((v2, v3))
theorem gq_X4_brokenBy_0 (t_pairs : Int32) (t_first : Nat → Int32) (t_second : Nat → Int32) (p1 : Int32) (v2 : Int32) (v3 : Int32) : gn_X4_brokenBy_0 t_pairs t_first t_second p1 v2 v3 =
    if t_pairs ≤ v3 then
      some v2
    else
      if inb v3 20 = true then
      if inb v3 20 = true then
      if ((p1 >>> ((t_first (v3).toNatClampNeg) &&& 31)) &&& 1) = ((p1 >>> ((t_second (v3).toNatClampNeg) &&& 31)) &&& 1) then
        gn_X4_brokenBy_0 t_pairs t_first t_second p1 (v2 ||| ((1 : Int32) <<< (v3 &&& 31))) (v3 + 1)
      else
        gn_X4_brokenBy_0 t_pairs t_first t_second p1 v2 (v3 + 1)
      else none
      else none := by
  rw [gn_X4_brokenBy_0, lpC_eq]
  show lpO _ (bd_X4_brokenBy_0 t_pairs t_first t_second p1 v2 v3) = _
  unfold bd_X4_brokenBy_0
  simp only [lpO_ite, lpO_bind, lpO_none, lpO_l, lpO_r]
  try rfl
noncomputable def dn_X4_brokenBy (t_pairs : Int32) (t_first : Nat → Int32) (t_second : Nat → Int32) (p1 : Int32) : Option (Int32) :=
  gn_X4_brokenBy_0 t_pairs t_first t_second p1 0 0
noncomputable def bd_X4_fewestFalse_0 (t_pairs : Int32) (t_first : Nat → Int32) (t_second : Nat → Int32) (p1 : Int32) (v2 : Int32) (v3 : Int32) : Option (((Int32 × Int32)) ⊕ (Int32)) :=
  if p1 ≤ v3 then
    some (.inr v2)
  else
    Option.bind (dn_X4_brokenBy t_pairs t_first t_second v3) fun q2 =>
    Option.bind (dn_J6_bitCount_0f7a4 q2) fun q3 =>
    Option.bind (dn_J6_bitCount_0f7a4 v2) fun q4 =>
    if (q3 - q4) < 0 then
      some (.inl (q2, v3 + 1))
    else
      if (q3 - q4) = 0 then
        if v2 ≤ q2 then
          some (.inl (v2, v3 + 1))
        else
          some (.inl (q2, v3 + 1))
      else
        some (.inl (v2, v3 + 1))
noncomputable def st_X4_fewestFalse (t_pairs : Int32) (t_first : Nat → Int32) (t_second : Nat → Int32) (p1 : Int32) : ((Int32 × Int32)) → Option (((Int32 × Int32)) ⊕ (Int32)) := fun s => match s with
  | (v2, v3) => bd_X4_fewestFalse_0 t_pairs t_first t_second p1 v2 v3
noncomputable def gn_X4_fewestFalse_0 (t_pairs : Int32) (t_first : Nat → Int32) (t_second : Nat → Int32) (p1 : Int32) (v2 : Int32) (v3 : Int32) : Option (Int32) := lpC (st_X4_fewestFalse t_pairs t_first t_second p1) ((v2, v3))
theorem gq_X4_fewestFalse_0 (t_pairs : Int32) (t_first : Nat → Int32) (t_second : Nat → Int32) (p1 : Int32) (v2 : Int32) (v3 : Int32) : gn_X4_fewestFalse_0 t_pairs t_first t_second p1 v2 v3 =
    if p1 ≤ v3 then
      some v2
    else
      Option.bind (dn_X4_brokenBy t_pairs t_first t_second v3) fun q2 =>
      Option.bind (dn_J6_bitCount_0f7a4 q2) fun q3 =>
      Option.bind (dn_J6_bitCount_0f7a4 v2) fun q4 =>
      if (q3 - q4) < 0 then
        gn_X4_fewestFalse_0 t_pairs t_first t_second p1 q2 (v3 + 1)
      else
        if (q3 - q4) = 0 then
          if v2 ≤ q2 then
            gn_X4_fewestFalse_0 t_pairs t_first t_second p1 v2 (v3 + 1)
          else
            gn_X4_fewestFalse_0 t_pairs t_first t_second p1 q2 (v3 + 1)
        else
          gn_X4_fewestFalse_0 t_pairs t_first t_second p1 v2 (v3 + 1) := by
  rw [gn_X4_fewestFalse_0, lpC_eq]
  show lpO _ (bd_X4_fewestFalse_0 t_pairs t_first t_second p1 v2 v3) = _
  unfold bd_X4_fewestFalse_0
  simp only [lpO_ite, lpO_bind, lpO_none, lpO_l, lpO_r]
  try rfl
noncomputable def dn_X4_fewestFalse (t_pairs : Int32) (t_first : Nat → Int32) (t_second : Nat → Int32) (p1 : Int32) : Option (Int32) :=
  gn_X4_fewestFalse_0 t_pairs t_first t_second p1 (((1 : Int32) <<< (t_pairs &&& 31)) - 1) 0
