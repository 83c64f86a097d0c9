noncomputable def dn_X12_ended (t_hasEnded : Int32) (t_endedBy : Nat → Int32) (p1 : Int32) : Option (Int32 × Int32) :=
  if t_hasEnded = 0 then
    some ((-1), 0)
  else
    Option.bind (dn_X12_isIn p1 0 1) fun q2 =>
    if q2 = true then
      if inb p1 2 = true then
      some (t_endedBy (p1).toNatClampNeg, 0)
      else none
    else
      some ((-1), 0)
noncomputable def dn_X12_bindAt (p1 : Int32) (p2 : Int32) (p3 : Int32) : Option (Int32) :=
  if p3 = 0 then
    some (((121 : Int32) * p1) + 0)
  else
    some (((121 : Int32) * p1) + ((((2 : Int32) * p3) - 2) + p2))
noncomputable def bd_X12_yearGains_0 (t_s : Nat → Int32) (p1 : Int32) (p2 : Int32) (v3 : Int32) (t_yearGain : Nat → Int32) : Option (((Int32 × (Nat → Int32)) ⊕ ((Int32 × (Nat → Int32)) ⊕ ((Int32 × (Nat → Int32)) ⊕ ((Int32 × Int32 × (Nat → Int32)))))) ⊕ ((Nat → Int32))) :=
  if (120 : Int32) ≤ v3 then
    some (.inl (.inr (.inl (0, t_yearGain))))
  else
    if inb v3 120 = true then
    some (.inl (.inl (v3 + 1, upd t_yearGain (v3).toNatClampNeg 0)))
    else none
noncomputable def bd_X12_yearGains_1 (t_s : Nat → Int32) (p1 : Int32) (p2 : Int32) (v3 : Int32) (t_yearGain : Nat → Int32) : Option (((Int32 × (Nat → Int32)) ⊕ ((Int32 × (Nat → Int32)) ⊕ ((Int32 × (Nat → Int32)) ⊕ ((Int32 × Int32 × (Nat → Int32)))))) ⊕ ((Nat → Int32))) :=
  if (t_s (1 : Int32).toNatClampNeg) ≤ v3 then
    some (.inr t_yearGain)
  else
    Option.bind (dn_X12_of t_s v3 0) fun q4 =>
    if q4 = p1 then
      some (.inl (.inr (.inr (.inl (v3, t_yearGain)))))
    else
      Option.bind (dn_X12_of t_s v3 1) fun q6 =>
      if q6 = p1 then
        some (.inl (.inr (.inr (.inl (v3, t_yearGain)))))
      else
        some (.inl (.inr (.inl (v3 + 1, t_yearGain))))
noncomputable def bd_X12_yearGains_2 (t_s : Nat → Int32) (p1 : Int32) (p2 : Int32) (v3 : Int32) (t_yearGain : Nat → Int32) : Option (((Int32 × (Nat → Int32)) ⊕ ((Int32 × (Nat → Int32)) ⊕ ((Int32 × (Nat → Int32)) ⊕ ((Int32 × Int32 × (Nat → Int32)))))) ⊕ ((Nat → Int32))) :=
  Option.bind (dn_X12_goesAs t_s v3 (p2 ||| ((1 : Int32) <<< (p1 &&& 31)))) fun q8 =>
  Option.bind (dn_X12_goesAs t_s v3 (p2 &&& (((1 : Int32) <<< (p1 &&& 31)) ^^^ (-1)))) fun q9 =>
  if q8 ≤ 0 then
    some (.inl (.inr (.inr (.inr ((v3, q9, t_yearGain))))))
  else
    Option.bind (dn_X12_of t_s v3 2) fun q11 =>
    if inb ((2 : Int32) * q11) 120 = true then
    Option.bind (dn_X12_gainOf t_s v3 p1) fun q13 =>
    if inb ((2 : Int32) * q11) 120 = true then
    some (.inl (.inr (.inr (.inr ((v3, q9, upd t_yearGain ((2 : Int32) * q11).toNatClampNeg ((t_yearGain (((2 : Int32) * q11)).toNatClampNeg) + q13)))))))
    else none
    else none
noncomputable def bd_X12_yearGains_3 (t_s : Nat → Int32) (p1 : Int32) (p2 : Int32) (v3 : Int32) (v5 : Int32) (t_yearGain : Nat → Int32) : Option (((Int32 × (Nat → Int32)) ⊕ ((Int32 × (Nat → Int32)) ⊕ ((Int32 × (Nat → Int32)) ⊕ ((Int32 × Int32 × (Nat → Int32)))))) ⊕ ((Nat → Int32))) :=
  if v5 ≤ 0 then
    some (.inl (.inr (.inl (v3 + 1, t_yearGain))))
  else
    Option.bind (dn_X12_of t_s v3 2) fun q16 =>
    if inb (((2 : Int32) * q16) + 1) 120 = true then
    Option.bind (dn_X12_gainOf t_s v3 p1) fun q18 =>
    if inb (((2 : Int32) * q16) + 1) 120 = true then
    some (.inl (.inr (.inl (v3 + 1, upd t_yearGain (((2 : Int32) * q16) + 1).toNatClampNeg ((t_yearGain ((((2 : Int32) * q16) + 1)).toNatClampNeg) + q18)))))
    else none
    else none
noncomputable def st_X12_yearGains (t_s : Nat → Int32) (p1 : Int32) (p2 : Int32) : ((Int32 × (Nat → Int32)) ⊕ ((Int32 × (Nat → Int32)) ⊕ ((Int32 × (Nat → Int32)) ⊕ ((Int32 × Int32 × (Nat → Int32)))))) → Option (((Int32 × (Nat → Int32)) ⊕ ((Int32 × (Nat → Int32)) ⊕ ((Int32 × (Nat → Int32)) ⊕ ((Int32 × Int32 × (Nat → Int32)))))) ⊕ ((Nat → Int32))) := fun s => match s with
  | .inl (v3, t_yearGain) => bd_X12_yearGains_0 t_s p1 p2 v3 t_yearGain
  | .inr (.inl (v3, t_yearGain)) => bd_X12_yearGains_1 t_s p1 p2 v3 t_yearGain
  | .inr (.inr (.inl (v3, t_yearGain))) => bd_X12_yearGains_2 t_s p1 p2 v3 t_yearGain
  | .inr (.inr (.inr ((v3, v5, t_yearGain)))) => bd_X12_yearGains_3 t_s p1 p2 v3 v5 t_yearGain
noncomputable def gn_X12_yearGains_0 (t_s : Nat → Int32) (p1 : Int32) (p2 : Int32) (v3 : Int32) (t_yearGain : Nat → Int32) : Option ((Nat → Int32)) := lpC (st_X12_yearGains t_s p1 p2) (.inl (v3, t_yearGain))
noncomputable def gn_X12_yearGains_1 (t_s : Nat → Int32) (p1 : Int32) (p2 : Int32) (v3 : Int32) (t_yearGain : Nat → Int32) : Option ((Nat → Int32)) := lpC (st_X12_yearGains t_s p1 p2) (.inr (.inl (v3, t_yearGain)))
noncomputable def gn_X12_yearGains_2 (t_s : Nat → Int32) (p1 : Int32) (p2 : Int32) (v3 : Int32) (t_yearGain : Nat → Int32) : Option ((Nat → Int32)) := lpC (st_X12_yearGains t_s p1 p2) (.inr (.inr (.inl (v3, t_yearGain))))
noncomputable def gn_X12_yearGains_3 (t_s : Nat → Int32) (p1 : Int32) (p2 : Int32) (v3 : Int32) (v5 : Int32) (t_yearGain : Nat → Int32) : Option ((Nat → Int32)) := lpC (st_X12_yearGains t_s p1 p2) (.inr (.inr (.inr ((v3, v5, t_yearGain)))))
theorem gq_X12_yearGains_0 (t_s : Nat → Int32) (p1 : Int32) (p2 : Int32) (v3 : Int32) (t_yearGain : Nat → Int32) : gn_X12_yearGains_0 t_s p1 p2 v3 t_yearGain =
    if (120 : Int32) ≤ v3 then
      gn_X12_yearGains_1 t_s p1 p2 0 t_yearGain
    else
      if inb v3 120 = true then
      gn_X12_yearGains_0 t_s p1 p2 (v3 + 1) (upd t_yearGain (v3).toNatClampNeg 0)
      else none := by
  rw [gn_X12_yearGains_0, lpC_eq]
  show lpO _ (bd_X12_yearGains_0 t_s p1 p2 v3 t_yearGain) = _
  unfold bd_X12_yearGains_0
  simp only [lpO_ite, lpO_bind, lpO_none, lpO_l, lpO_r]
  try rfl
theorem gq_X12_yearGains_1 (t_s : Nat → Int32) (p1 : Int32) (p2 : Int32) (v3 : Int32) (t_yearGain : Nat → Int32) : gn_X12_yearGains_1 t_s p1 p2 v3 t_yearGain =
    if (t_s (1 : Int32).toNatClampNeg) ≤ v3 then
      some t_yearGain
    else
      Option.bind (dn_X12_of t_s v3 0) fun q4 =>
      if q4 = p1 then
        gn_X12_yearGains_2 t_s p1 p2 v3 t_yearGain
      else
        Option.bind (dn_X12_of t_s v3 1) fun q6 =>
        if q6 = p1 then
          gn_X12_yearGains_2 t_s p1 p2 v3 t_yearGain
        else
          gn_X12_yearGains_1 t_s p1 p2 (v3 + 1) t_yearGain := by
  rw [gn_X12_yearGains_1, lpC_eq]
  show lpO _ (bd_X12_yearGains_1 t_s p1 p2 v3 t_yearGain) = _
  unfold bd_X12_yearGains_1
  simp only [lpO_ite, lpO_bind, lpO_none, lpO_l, lpO_r]
  try rfl
theorem gq_X12_yearGains_2 (t_s : Nat → Int32) (p1 : Int32) (p2 : Int32) (v3 : Int32) (t_yearGain : Nat → Int32) : gn_X12_yearGains_2 t_s p1 p2 v3 t_yearGain =
    Option.bind (dn_X12_goesAs t_s v3 (p2 ||| ((1 : Int32) <<< (p1 &&& 31)))) fun q8 =>
    Option.bind (dn_X12_goesAs t_s v3 (p2 &&& (((1 : Int32) <<< (p1 &&& 31)) ^^^ (-1)))) fun q9 =>
    if q8 ≤ 0 then
      gn_X12_yearGains_3 t_s p1 p2 v3 q9 t_yearGain
    else
      Option.bind (dn_X12_of t_s v3 2) fun q11 =>
      if inb ((2 : Int32) * q11) 120 = true then
      Option.bind (dn_X12_gainOf t_s v3 p1) fun q13 =>
      if inb ((2 : Int32) * q11) 120 = true then
      gn_X12_yearGains_3 t_s p1 p2 v3 q9 (upd t_yearGain ((2 : Int32) * q11).toNatClampNeg ((t_yearGain (((2 : Int32) * q11)).toNatClampNeg) + q13))
      else none
      else none := by
  rw [gn_X12_yearGains_2, lpC_eq]
  show lpO _ (bd_X12_yearGains_2 t_s p1 p2 v3 t_yearGain) = _
  unfold bd_X12_yearGains_2
  simp only [lpO_ite, lpO_bind, lpO_none, lpO_l, lpO_r]
  try rfl
theorem gq_X12_yearGains_3 (t_s : Nat → Int32) (p1 : Int32) (p2 : Int32) (v3 : Int32) (v5 : Int32) (t_yearGain : Nat → Int32) : gn_X12_yearGains_3 t_s p1 p2 v3 v5 t_yearGain =
    if v5 ≤ 0 then
      gn_X12_yearGains_1 t_s p1 p2 (v3 + 1) t_yearGain
    else
      Option.bind (dn_X12_of t_s v3 2) fun q16 =>
      if inb (((2 : Int32) * q16) + 1) 120 = true then
      Option.bind (dn_X12_gainOf t_s v3 p1) fun q18 =>
      if inb (((2 : Int32) * q16) + 1) 120 = true then
      gn_X12_yearGains_1 t_s p1 p2 (v3 + 1) (upd t_yearGain (((2 : Int32) * q16) + 1).toNatClampNeg ((t_yearGain ((((2 : Int32) * q16) + 1)).toNatClampNeg) + q18))
      else none
      else none := by
  rw [gn_X12_yearGains_3, lpC_eq]
  show lpO _ (bd_X12_yearGains_3 t_s p1 p2 v3 v5 t_yearGain) = _
  unfold bd_X12_yearGains_3
  simp only [lpO_ite, lpO_bind, lpO_none, lpO_l, lpO_r]
  try rfl
noncomputable def dn_X12_yearGains (t_s : Nat → Int32) (t_yearGain : Nat → Int32) (p1 : Int32) (p2 : Int32) : Option ((Nat → Int32)) :=
  gn_X12_yearGains_0 t_s p1 p2 0 t_yearGain
noncomputable def dn_X12_later (t_most : Nat → Int32) (p1 : Int32) (p2 : Int32) (p3 : Int32) : Option (Int32) :=
  if p1 = 59 then
    some 0
  else
    Option.bind (dn_X12_bindAt (p1 + 1) p2 p3) fun q2 =>
    if inb q2 7381 = true then
    some (t_most (q2).toNatClampNeg)
    else none
noncomputable def bd_X12_from_0 (t_most : Nat → Int32) (t_yearGain : Nat → Int32) (p1 : Int32) (p3 : Int32) (p4 : Int32) (p5 : Int32)  : Option (((Unit)) ⊕ (Int32)) :=
  if inb ((((2 : Int32) * p1) + p4) - 1) 120 = true then
  if p3 ≤ 0 then
    Option.bind (dn_X12_later t_most p1 p4 (p5 - 1)) fun q9 =>
    some (.inr ((t_yearGain (((((2 : Int32) * p1) + p4) - 1)).toNatClampNeg) + q9))
  else
    Option.bind (dn_X12_later t_most p1 p4 (p3 - 1)) fun q10 =>
    some (.inr ((t_yearGain (((((2 : Int32) * p1) + p4) - 1)).toNatClampNeg) + q10))
  else none
noncomputable def st_X12_from (t_most : Nat → Int32) (t_yearGain : Nat → Int32) (p1 : Int32) (p3 : Int32) (p4 : Int32) (p5 : Int32) : ((Unit)) → Option (((Unit)) ⊕ (Int32)) := fun s => match s with
  | () => bd_X12_from_0 t_most t_yearGain p1 p3 p4 p5 
noncomputable def gn_X12_from_0 (t_most : Nat → Int32) (t_yearGain : Nat → Int32) (p1 : Int32) (p3 : Int32) (p4 : Int32) (p5 : Int32)  : Option (Int32) := lpC (st_X12_from t_most t_yearGain p1 p3 p4 p5) (())
theorem gq_X12_from_0 (t_most : Nat → Int32) (t_yearGain : Nat → Int32) (p1 : Int32) (p3 : Int32) (p4 : Int32) (p5 : Int32)  : gn_X12_from_0 t_most t_yearGain p1 p3 p4 p5  =
    if inb ((((2 : Int32) * p1) + p4) - 1) 120 = true then
    if p3 ≤ 0 then
      Option.bind (dn_X12_later t_most p1 p4 (p5 - 1)) fun q9 =>
      some ((t_yearGain (((((2 : Int32) * p1) + p4) - 1)).toNatClampNeg) + q9)
    else
      Option.bind (dn_X12_later t_most p1 p4 (p3 - 1)) fun q10 =>
      some ((t_yearGain (((((2 : Int32) * p1) + p4) - 1)).toNatClampNeg) + q10)
    else none := by
  rw [gn_X12_from_0, lpC_eq]
  show lpO _ (bd_X12_from_0 t_most t_yearGain p1 p3 p4 p5 ) = _
  unfold bd_X12_from_0
  simp only [lpO_ite, lpO_bind, lpO_none, lpO_l, lpO_r]
  try rfl
noncomputable def dn_X12_from (t_most : Nat → Int32) (t_yearGain : Nat → Int32) (p1 : Int32) (p2 : Int32) (p3 : Int32) (p4 : Int32) (p5 : Int32) : Option (Int32) :=
  if p4 = 0 then
    if p3 ≤ 0 then
      Option.bind (dn_X12_later t_most p1 p2 0) fun q5 =>
      some q5
    else
      Option.bind (dn_X12_later t_most p1 p2 (p3 - 1)) fun q6 =>
      some q6
  else
    if p3 ≤ 0 then
      gn_X12_from_0 t_most t_yearGain p1 p3 p4 p5
    else
      if p2 = p4 then
        gn_X12_from_0 t_most t_yearGain p1 p3 p4 p5
      else
        some (-1)
noncomputable def bd_X12_oneOf_0 (t_s : Nat → Int32) (p1 : Int32) (p2 : Int32) (k0 : Int32) (t_yearGain : Nat → Int32) (t_most : Nat → Int32) : Option (((Int32 × (Nat → Int32) × (Nat → Int32)) ⊕ ((Int32 × Int32 × (Nat → Int32) × (Nat → Int32)) ⊕ ((Int32 × Int32 × Int32 × (Nat → Int32) × (Nat → Int32)) ⊕ ((Int32 × Int32 × Int32 × Int32 × (Nat → Int32) × (Nat → Int32)) ⊕ ((Int32 × Int32 × Int32 × Int32 × Int32 × Int32 × (Nat → Int32) × (Nat → Int32))))))) ⊕ (Int32 × (Nat → Int32) × (Nat → Int32))) :=
  Option.bind (dn_X12_yearGains t_s t_yearGain p1 p2) fun q2 =>
  some (.inl (.inr (.inl (k0, 59, q2, t_most))))
noncomputable def bd_X12_oneOf_1 (t_s : Nat → Int32) (p1 : Int32) (p2 : Int32) (v4 : Int32) (v5 : Int32) (t_yearGain : Nat → Int32) (t_most : Nat → Int32) : Option (((Int32 × (Nat → Int32) × (Nat → Int32)) ⊕ ((Int32 × Int32 × (Nat → Int32) × (Nat → Int32)) ⊕ ((Int32 × Int32 × Int32 × (Nat → Int32) × (Nat → Int32)) ⊕ ((Int32 × Int32 × Int32 × Int32 × (Nat → Int32) × (Nat → Int32)) ⊕ ((Int32 × Int32 × Int32 × Int32 × Int32 × Int32 × (Nat → Int32) × (Nat → Int32))))))) ⊕ (Int32 × (Nat → Int32) × (Nat → Int32))) :=
  if v5 < 0 then
    Option.bind (dn_X12_bindAt 0 1 0) fun q4 =>
    if inb q4 7381 = true then
    some (.inr (t_most (q4).toNatClampNeg, t_yearGain, t_most))
    else none
  else
    some (.inl (.inr (.inr (.inl (v4, v5, 0, t_yearGain, t_most)))))
noncomputable def bd_X12_oneOf_2 (t_s : Nat → Int32) (p1 : Int32) (p2 : Int32) (v4 : Int32) (v5 : Int32) (v6 : Int32) (t_yearGain : Nat → Int32) (t_most : Nat → Int32) : Option (((Int32 × (Nat → Int32) × (Nat → Int32)) ⊕ ((Int32 × Int32 × (Nat → Int32) × (Nat → Int32)) ⊕ ((Int32 × Int32 × Int32 × (Nat → Int32) × (Nat → Int32)) ⊕ ((Int32 × Int32 × Int32 × Int32 × (Nat → Int32) × (Nat → Int32)) ⊕ ((Int32 × Int32 × Int32 × Int32 × Int32 × Int32 × (Nat → Int32) × (Nat → Int32))))))) ⊕ (Int32 × (Nat → Int32) × (Nat → Int32))) :=
  if (60 : Int32) < v6 then
    some (.inl (.inr (.inl (v4, v5 + (-1), t_yearGain, t_most))))
  else
    some (.inl (.inr (.inr (.inr (.inl (v4, v5, v6, 1, t_yearGain, t_most))))))
noncomputable def bd_X12_oneOf_3 (t_s : Nat → Int32) (p1 : Int32) (p2 : Int32) (v4 : Int32) (v5 : Int32) (v6 : Int32) (v7 : Int32) (t_yearGain : Nat → Int32) (t_most : Nat → Int32) : Option (((Int32 × (Nat → Int32) × (Nat → Int32)) ⊕ ((Int32 × Int32 × (Nat → Int32) × (Nat → Int32)) ⊕ ((Int32 × Int32 × Int32 × (Nat → Int32) × (Nat → Int32)) ⊕ ((Int32 × Int32 × Int32 × Int32 × (Nat → Int32) × (Nat → Int32)) ⊕ ((Int32 × Int32 × Int32 × Int32 × Int32 × Int32 × (Nat → Int32) × (Nat → Int32))))))) ⊕ (Int32 × (Nat → Int32) × (Nat → Int32))) :=
  if (3 : Int32) ≤ v7 then
    some (.inl (.inr (.inr (.inl (v4, v5, v6 + 1, t_yearGain, t_most)))))
  else
    some (.inl (.inr (.inr (.inr (.inr ((v4, v5, v6, v7, (-1), 0, t_yearGain, t_most)))))))
noncomputable def bd_X12_oneOf_4 (t_s : Nat → Int32) (p1 : Int32) (p2 : Int32) (v4 : Int32) (v5 : Int32) (v6 : Int32) (v7 : Int32) (v8 : Int32) (v9 : Int32) (t_yearGain : Nat → Int32) (t_most : Nat → Int32) : Option (((Int32 × (Nat → Int32) × (Nat → Int32)) ⊕ ((Int32 × Int32 × (Nat → Int32) × (Nat → Int32)) ⊕ ((Int32 × Int32 × Int32 × (Nat → Int32) × (Nat → Int32)) ⊕ ((Int32 × Int32 × Int32 × Int32 × (Nat → Int32) × (Nat → Int32)) ⊕ ((Int32 × Int32 × Int32 × Int32 × Int32 × Int32 × (Nat → Int32) × (Nat → Int32))))))) ⊕ (Int32 × (Nat → Int32) × (Nat → Int32))) :=
  if (3 : Int32) ≤ v9 then
    Option.bind (dn_X12_bindAt v5 v7 v6) fun q9 =>
    if inb q9 7381 = true then
    some (.inl (.inr (.inr (.inr (.inl (v4, v5, v6, v7 + 1, t_yearGain, upd t_most (q9).toNatClampNeg v8))))))
    else none
  else
    Option.bind (dn_X12_from t_most t_yearGain v5 v7 v6 v9 v4) fun q11 =>
    if q11 ≤ v8 then
      some (.inl (.inr (.inr (.inr (.inr ((v4, v5, v6, v7, v8, v9 + 1, t_yearGain, t_most)))))))
    else
      some (.inl (.inr (.inr (.inr (.inr ((v4, v5, v6, v7, q11, v9 + 1, t_yearGain, t_most)))))))
noncomputable def st_X12_oneOf (t_s : Nat → Int32) (p1 : Int32) (p2 : Int32) : ((Int32 × (Nat → Int32) × (Nat → Int32)) ⊕ ((Int32 × Int32 × (Nat → Int32) × (Nat → Int32)) ⊕ ((Int32 × Int32 × Int32 × (Nat → Int32) × (Nat → Int32)) ⊕ ((Int32 × Int32 × Int32 × Int32 × (Nat → Int32) × (Nat → Int32)) ⊕ ((Int32 × Int32 × Int32 × Int32 × Int32 × Int32 × (Nat → Int32) × (Nat → Int32))))))) → Option (((Int32 × (Nat → Int32) × (Nat → Int32)) ⊕ ((Int32 × Int32 × (Nat → Int32) × (Nat → Int32)) ⊕ ((Int32 × Int32 × Int32 × (Nat → Int32) × (Nat → Int32)) ⊕ ((Int32 × Int32 × Int32 × Int32 × (Nat → Int32) × (Nat → Int32)) ⊕ ((Int32 × Int32 × Int32 × Int32 × Int32 × Int32 × (Nat → Int32) × (Nat → Int32))))))) ⊕ (Int32 × (Nat → Int32) × (Nat → Int32))) := fun s => match s with
  | .inl (k0, t_yearGain, t_most) => bd_X12_oneOf_0 t_s p1 p2 k0 t_yearGain t_most
  | .inr (.inl (v4, v5, t_yearGain, t_most)) => bd_X12_oneOf_1 t_s p1 p2 v4 v5 t_yearGain t_most
  | .inr (.inr (.inl (v4, v5, v6, t_yearGain, t_most))) => bd_X12_oneOf_2 t_s p1 p2 v4 v5 v6 t_yearGain t_most
  | .inr (.inr (.inr (.inl (v4, v5, v6, v7, t_yearGain, t_most)))) => bd_X12_oneOf_3 t_s p1 p2 v4 v5 v6 v7 t_yearGain t_most
  | .inr (.inr (.inr (.inr ((v4, v5, v6, v7, v8, v9, t_yearGain, t_most))))) => bd_X12_oneOf_4 t_s p1 p2 v4 v5 v6 v7 v8 v9 t_yearGain t_most
noncomputable def gn_X12_oneOf_0 (t_s : Nat → Int32) (p1 : Int32) (p2 : Int32) (k0 : Int32) (t_yearGain : Nat → Int32) (t_most : Nat → Int32) : Option (Int32 × (Nat → Int32) × (Nat → Int32)) := lpC (st_X12_oneOf t_s p1 p2) (.inl (k0, t_yearGain, t_most))
noncomputable def gn_X12_oneOf_1 (t_s : Nat → Int32) (p1 : Int32) (p2 : Int32) (v4 : Int32) (v5 : Int32) (t_yearGain : Nat → Int32) (t_most : Nat → Int32) : Option (Int32 × (Nat → Int32) × (Nat → Int32)) := lpC (st_X12_oneOf t_s p1 p2) (.inr (.inl (v4, v5, t_yearGain, t_most)))
noncomputable def gn_X12_oneOf_2 (t_s : Nat → Int32) (p1 : Int32) (p2 : Int32) (v4 : Int32) (v5 : Int32) (v6 : Int32) (t_yearGain : Nat → Int32) (t_most : Nat → Int32) : Option (Int32 × (Nat → Int32) × (Nat → Int32)) := lpC (st_X12_oneOf t_s p1 p2) (.inr (.inr (.inl (v4, v5, v6, t_yearGain, t_most))))
noncomputable def gn_X12_oneOf_3 (t_s : Nat → Int32) (p1 : Int32) (p2 : Int32) (v4 : Int32) (v5 : Int32) (v6 : Int32) (v7 : Int32) (t_yearGain : Nat → Int32) (t_most : Nat → Int32) : Option (Int32 × (Nat → Int32) × (Nat → Int32)) := lpC (st_X12_oneOf t_s p1 p2) (.inr (.inr (.inr (.inl (v4, v5, v6, v7, t_yearGain, t_most)))))
noncomputable def gn_X12_oneOf_4 (t_s : Nat → Int32) (p1 : Int32) (p2 : Int32) (v4 : Int32) (v5 : Int32) (v6 : Int32) (v7 : Int32) (v8 : Int32) (v9 : Int32) (t_yearGain : Nat → Int32) (t_most : Nat → Int32) : Option (Int32 × (Nat → Int32) × (Nat → Int32)) := lpC (st_X12_oneOf t_s p1 p2) (.inr (.inr (.inr (.inr ((v4, v5, v6, v7, v8, v9, t_yearGain, t_most))))))
theorem gq_X12_oneOf_0 (t_s : Nat → Int32) (p1 : Int32) (p2 : Int32) (k0 : Int32) (t_yearGain : Nat → Int32) (t_most : Nat → Int32) : gn_X12_oneOf_0 t_s p1 p2 k0 t_yearGain t_most =
    Option.bind (dn_X12_yearGains t_s t_yearGain p1 p2) fun q2 =>
    gn_X12_oneOf_1 t_s p1 p2 k0 59 q2 t_most := by
  rw [gn_X12_oneOf_0, lpC_eq]
  show lpO _ (bd_X12_oneOf_0 t_s p1 p2 k0 t_yearGain t_most) = _
  unfold bd_X12_oneOf_0
  simp only [lpO_ite, lpO_bind, lpO_none, lpO_l, lpO_r]
  try rfl
theorem gq_X12_oneOf_1 (t_s : Nat → Int32) (p1 : Int32) (p2 : Int32) (v4 : Int32) (v5 : Int32) (t_yearGain : Nat → Int32) (t_most : Nat → Int32) : gn_X12_oneOf_1 t_s p1 p2 v4 v5 t_yearGain t_most =
    if v5 < 0 then
      Option.bind (dn_X12_bindAt 0 1 0) fun q4 =>
      if inb q4 7381 = true then
      some (t_most (q4).toNatClampNeg, t_yearGain, t_most)
      else none
    else
      gn_X12_oneOf_2 t_s p1 p2 v4 v5 0 t_yearGain t_most := by
  rw [gn_X12_oneOf_1, lpC_eq]
  show lpO _ (bd_X12_oneOf_1 t_s p1 p2 v4 v5 t_yearGain t_most) = _
  unfold bd_X12_oneOf_1
  simp only [lpO_ite, lpO_bind, lpO_none, lpO_l, lpO_r]
  try rfl
theorem gq_X12_oneOf_2 (t_s : Nat → Int32) (p1 : Int32) (p2 : Int32) (v4 : Int32) (v5 : Int32) (v6 : Int32) (t_yearGain : Nat → Int32) (t_most : Nat → Int32) : gn_X12_oneOf_2 t_s p1 p2 v4 v5 v6 t_yearGain t_most =
    if (60 : Int32) < v6 then
      gn_X12_oneOf_1 t_s p1 p2 v4 (v5 + (-1)) t_yearGain t_most
    else
      gn_X12_oneOf_3 t_s p1 p2 v4 v5 v6 1 t_yearGain t_most := by
  rw [gn_X12_oneOf_2, lpC_eq]
  show lpO _ (bd_X12_oneOf_2 t_s p1 p2 v4 v5 v6 t_yearGain t_most) = _
  unfold bd_X12_oneOf_2
  simp only [lpO_ite, lpO_bind, lpO_none, lpO_l, lpO_r]
  try rfl
theorem gq_X12_oneOf_3 (t_s : Nat → Int32) (p1 : Int32) (p2 : Int32) (v4 : Int32) (v5 : Int32) (v6 : Int32) (v7 : Int32) (t_yearGain : Nat → Int32) (t_most : Nat → Int32) : gn_X12_oneOf_3 t_s p1 p2 v4 v5 v6 v7 t_yearGain t_most =
    if (3 : Int32) ≤ v7 then
      gn_X12_oneOf_2 t_s p1 p2 v4 v5 (v6 + 1) t_yearGain t_most
    else
      gn_X12_oneOf_4 t_s p1 p2 v4 v5 v6 v7 (-1) 0 t_yearGain t_most := by
  rw [gn_X12_oneOf_3, lpC_eq]
  show lpO _ (bd_X12_oneOf_3 t_s p1 p2 v4 v5 v6 v7 t_yearGain t_most) = _
  unfold bd_X12_oneOf_3
  simp only [lpO_ite, lpO_bind, lpO_none, lpO_l, lpO_r]
  try rfl
theorem gq_X12_oneOf_4 (t_s : Nat → Int32) (p1 : Int32) (p2 : Int32) (v4 : Int32) (v5 : Int32) (v6 : Int32) (v7 : Int32) (v8 : Int32) (v9 : Int32) (t_yearGain : Nat → Int32) (t_most : Nat → Int32) : gn_X12_oneOf_4 t_s p1 p2 v4 v5 v6 v7 v8 v9 t_yearGain t_most =
    if (3 : Int32) ≤ v9 then
      Option.bind (dn_X12_bindAt v5 v7 v6) fun q9 =>
      if inb q9 7381 = true then
      gn_X12_oneOf_3 t_s p1 p2 v4 v5 v6 (v7 + 1) t_yearGain (upd t_most (q9).toNatClampNeg v8)
      else none
    else
      Option.bind (dn_X12_from t_most t_yearGain v5 v7 v6 v9 v4) fun q11 =>
      if q11 ≤ v8 then
        gn_X12_oneOf_4 t_s p1 p2 v4 v5 v6 v7 v8 (v9 + 1) t_yearGain t_most
      else
        gn_X12_oneOf_4 t_s p1 p2 v4 v5 v6 v7 q11 (v9 + 1) t_yearGain t_most := by
  rw [gn_X12_oneOf_4, lpC_eq]
  show lpO _ (bd_X12_oneOf_4 t_s p1 p2 v4 v5 v6 v7 v8 v9 t_yearGain t_most) = _
  unfold bd_X12_oneOf_4
  simp only [lpO_ite, lpO_bind, lpO_none, lpO_l, lpO_r]
  try rfl
noncomputable def dn_X12_oneOf (t_most : Nat → Int32) (t_s : Nat → Int32) (t_yearGain : Nat → Int32) (p1 : Int32) (p2 : Int32) (p3 : Int32) : Option (Int32 × (Nat → Int32) × (Nat → Int32)) :=
  if p3 = 0 then
    gn_X12_oneOf_0 t_s p1 p2 60 t_yearGain t_most
  else
    gn_X12_oneOf_0 t_s p1 p2 p3 t_yearGain t_most
noncomputable def bd_X12_one_0 (t_s : Nat → Int32) (p1 : Int32) (p2 : Int32) (k0 : Int32) (t_thrown : Int32) (t_yearGain : Nat → Int32) (t_most : Nat → Int32) (t_hasOne : Int32) (t_oneIs : Nat → Int32) : Option (((Int32 × Int32 × (Nat → Int32) × (Nat → Int32) × Int32 × (Nat → Int32)) ⊕ ((Int32 × Int32 × Int32 × Int32 × Int32 × Int32 × (Nat → Int32) × (Nat → Int32) × Int32 × (Nat → Int32)) ⊕ ((Int32 × Int32 × Int32 × Int32 × Int32 × Int32 × Int32 × (Nat → Int32) × (Nat → Int32) × Int32 × (Nat → Int32)) ⊕ ((Int32 × Int32 × Int32 × Int32 × Int32 × Int32 × (Nat → Int32) × (Nat → Int32) × Int32 × (Nat → Int32)))))) ⊕ (Int32 × Int32 × (Nat → Int32) × (Nat → Int32) × Int32 × (Nat → Int32))) :=
  Option.bind (dn_X12_oneOf t_most t_s t_yearGain p1 p2 (t_s (2 : Int32).toNatClampNeg)) fun q6 =>
  some (.inl (.inr (.inl (k0, q6.1, 1, 0, 0, t_thrown, q6.2.1, q6.2.2, t_hasOne, t_oneIs))))
noncomputable def bd_X12_one_1 (t_s : Nat → Int32) (p1 : Int32) (p2 : Int32) (v3 : Int32) (v4 : Int32) (v5 : Int32) (v6 : Int32) (v7 : Int32) (t_thrown : Int32) (t_yearGain : Nat → Int32) (t_most : Nat → Int32) (t_hasOne : Int32) (t_oneIs : Nat → Int32) : Option (((Int32 × Int32 × (Nat → Int32) × (Nat → Int32) × Int32 × (Nat → Int32)) ⊕ ((Int32 × Int32 × Int32 × Int32 × Int32 × Int32 × (Nat → Int32) × (Nat → Int32) × Int32 × (Nat → Int32)) ⊕ ((Int32 × Int32 × Int32 × Int32 × Int32 × Int32 × Int32 × (Nat → Int32) × (Nat → Int32) × Int32 × (Nat → Int32)) ⊕ ((Int32 × Int32 × Int32 × Int32 × Int32 × Int32 × (Nat → Int32) × (Nat → Int32) × Int32 × (Nat → Int32)))))) ⊕ (Int32 × Int32 × (Nat → Int32) × (Nat → Int32) × Int32 × (Nat → Int32))) :=
  if (60 : Int32) ≤ v7 then
    some (.inr (v4, t_thrown, t_yearGain, t_most, 1, t_oneIs))
  else
    some (.inl (.inr (.inr (.inl (v3, v4, v5, v6, v7, 0, t_thrown, t_yearGain, t_most, t_hasOne, t_oneIs)))))
noncomputable def bd_X12_one_2 (t_s : Nat → Int32) (p1 : Int32) (p2 : Int32) (v3 : Int32) (v4 : Int32) (v5 : Int32) (v6 : Int32) (v7 : Int32) (v8 : Int32) (t_thrown : Int32) (t_yearGain : Nat → Int32) (t_most : Nat → Int32) (t_hasOne : Int32) (t_oneIs : Nat → Int32) : Option (((Int32 × Int32 × (Nat → Int32) × (Nat → Int32) × Int32 × (Nat → Int32)) ⊕ ((Int32 × Int32 × Int32 × Int32 × Int32 × Int32 × (Nat → Int32) × (Nat → Int32) × Int32 × (Nat → Int32)) ⊕ ((Int32 × Int32 × Int32 × Int32 × Int32 × Int32 × Int32 × (Nat → Int32) × (Nat → Int32) × Int32 × (Nat → Int32)) ⊕ ((Int32 × Int32 × Int32 × Int32 × Int32 × Int32 × (Nat → Int32) × (Nat → Int32) × Int32 × (Nat → Int32)))))) ⊕ (Int32 × Int32 × (Nat → Int32) × (Nat → Int32) × Int32 × (Nat → Int32))) :=
  Option.bind (dn_X12_from t_most t_yearGain v7 v5 v6 v8 v3) fun q8 =>
  Option.bind (dn_X12_bindAt v7 v5 v6) fun q9 =>
  if inb q9 7381 = true then
  if q8 = (t_most (q9).toNatClampNeg) then
    if inb v7 60 = true then
    if v8 ≤ 0 then
      some (.inl (.inr (.inr (.inr ((v3, v4, v5, v6, v7, t_thrown, t_yearGain, t_most, t_hasOne, upd t_oneIs (v7).toNatClampNeg v8))))))
    else
      if v6 = 0 then
        some (.inl (.inr (.inr (.inr ((v3, v4, v8, v3, v7, t_thrown, t_yearGain, t_most, t_hasOne, upd t_oneIs (v7).toNatClampNeg v8))))))
      else
        some (.inl (.inr (.inr (.inr ((v3, v4, v5, v6, v7, t_thrown, t_yearGain, t_most, t_hasOne, upd t_oneIs (v7).toNatClampNeg v8))))))
    else none
  else
    some (.inl (.inr (.inr (.inl (v3, v4, v5, v6, v7, v8 + 1, t_thrown, t_yearGain, t_most, t_hasOne, t_oneIs)))))
  else none
noncomputable def bd_X12_one_3 (t_s : Nat → Int32) (p1 : Int32) (p2 : Int32) (v3 : Int32) (v4 : Int32) (v5 : Int32) (v6 : Int32) (v7 : Int32) (t_thrown : Int32) (t_yearGain : Nat → Int32) (t_most : Nat → Int32) (t_hasOne : Int32) (t_oneIs : Nat → Int32) : Option (((Int32 × Int32 × (Nat → Int32) × (Nat → Int32) × Int32 × (Nat → Int32)) ⊕ ((Int32 × Int32 × Int32 × Int32 × Int32 × Int32 × (Nat → Int32) × (Nat → Int32) × Int32 × (Nat → Int32)) ⊕ ((Int32 × Int32 × Int32 × Int32 × Int32 × Int32 × Int32 × (Nat → Int32) × (Nat → Int32) × Int32 × (Nat → Int32)) ⊕ ((Int32 × Int32 × Int32 × Int32 × Int32 × Int32 × (Nat → Int32) × (Nat → Int32) × Int32 × (Nat → Int32)))))) ⊕ (Int32 × Int32 × (Nat → Int32) × (Nat → Int32) × Int32 × (Nat → Int32))) :=
  if v6 ≤ 0 then
    some (.inl (.inr (.inl (v3, v4, v5, 0, v7 + 1, t_thrown, t_yearGain, t_most, t_hasOne, t_oneIs))))
  else
    some (.inl (.inr (.inl (v3, v4, v5, v6 - 1, v7 + 1, t_thrown, t_yearGain, t_most, t_hasOne, t_oneIs))))
noncomputable def st_X12_one (t_s : Nat → Int32) (p1 : Int32) (p2 : Int32) : ((Int32 × Int32 × (Nat → Int32) × (Nat → Int32) × Int32 × (Nat → Int32)) ⊕ ((Int32 × Int32 × Int32 × Int32 × Int32 × Int32 × (Nat → Int32) × (Nat → Int32) × Int32 × (Nat → Int32)) ⊕ ((Int32 × Int32 × Int32 × Int32 × Int32 × Int32 × Int32 × (Nat → Int32) × (Nat → Int32) × Int32 × (Nat → Int32)) ⊕ ((Int32 × Int32 × Int32 × Int32 × Int32 × Int32 × (Nat → Int32) × (Nat → Int32) × Int32 × (Nat → Int32)))))) → Option (((Int32 × Int32 × (Nat → Int32) × (Nat → Int32) × Int32 × (Nat → Int32)) ⊕ ((Int32 × Int32 × Int32 × Int32 × Int32 × Int32 × (Nat → Int32) × (Nat → Int32) × Int32 × (Nat → Int32)) ⊕ ((Int32 × Int32 × Int32 × Int32 × Int32 × Int32 × Int32 × (Nat → Int32) × (Nat → Int32) × Int32 × (Nat → Int32)) ⊕ ((Int32 × Int32 × Int32 × Int32 × Int32 × Int32 × (Nat → Int32) × (Nat → Int32) × Int32 × (Nat → Int32)))))) ⊕ (Int32 × Int32 × (Nat → Int32) × (Nat → Int32) × Int32 × (Nat → Int32))) := fun s => match s with
  | .inl (k0, t_thrown, t_yearGain, t_most, t_hasOne, t_oneIs) => bd_X12_one_0 t_s p1 p2 k0 t_thrown t_yearGain t_most t_hasOne t_oneIs
  | .inr (.inl (v3, v4, v5, v6, v7, t_thrown, t_yearGain, t_most, t_hasOne, t_oneIs)) => bd_X12_one_1 t_s p1 p2 v3 v4 v5 v6 v7 t_thrown t_yearGain t_most t_hasOne t_oneIs
  | .inr (.inr (.inl (v3, v4, v5, v6, v7, v8, t_thrown, t_yearGain, t_most, t_hasOne, t_oneIs))) => bd_X12_one_2 t_s p1 p2 v3 v4 v5 v6 v7 v8 t_thrown t_yearGain t_most t_hasOne t_oneIs
  | .inr (.inr (.inr ((v3, v4, v5, v6, v7, t_thrown, t_yearGain, t_most, t_hasOne, t_oneIs)))) => bd_X12_one_3 t_s p1 p2 v3 v4 v5 v6 v7 t_thrown t_yearGain t_most t_hasOne t_oneIs
noncomputable def gn_X12_one_0 (t_s : Nat → Int32) (p1 : Int32) (p2 : Int32) (k0 : Int32) (t_thrown : Int32) (t_yearGain : Nat → Int32) (t_most : Nat → Int32) (t_hasOne : Int32) (t_oneIs : Nat → Int32) : Option (Int32 × Int32 × (Nat → Int32) × (Nat → Int32) × Int32 × (Nat → Int32)) := lpC (st_X12_one t_s p1 p2) (.inl (k0, t_thrown, t_yearGain, t_most, t_hasOne, t_oneIs))
noncomputable def gn_X12_one_1 (t_s : Nat → Int32) (p1 : Int32) (p2 : Int32) (v3 : Int32) (v4 : Int32) (v5 : Int32) (v6 : Int32) (v7 : Int32) (t_thrown : Int32) (t_yearGain : Nat → Int32) (t_most : Nat → Int32) (t_hasOne : Int32) (t_oneIs : Nat → Int32) : Option (Int32 × Int32 × (Nat → Int32) × (Nat → Int32) × Int32 × (Nat → Int32)) := lpC (st_X12_one t_s p1 p2) (.inr (.inl (v3, v4, v5, v6, v7, t_thrown, t_yearGain, t_most, t_hasOne, t_oneIs)))
noncomputable def gn_X12_one_2 (t_s : Nat → Int32) (p1 : Int32) (p2 : Int32) (v3 : Int32) (v4 : Int32) (v5 : Int32) (v6 : Int32) (v7 : Int32) (v8 : Int32) (t_thrown : Int32) (t_yearGain : Nat → Int32) (t_most : Nat → Int32) (t_hasOne : Int32) (t_oneIs : Nat → Int32) : Option (Int32 × Int32 × (Nat → Int32) × (Nat → Int32) × Int32 × (Nat → Int32)) := lpC (st_X12_one t_s p1 p2) (.inr (.inr (.inl (v3, v4, v5, v6, v7, v8, t_thrown, t_yearGain, t_most, t_hasOne, t_oneIs))))
noncomputable def gn_X12_one_3 (t_s : Nat → Int32) (p1 : Int32) (p2 : Int32) (v3 : Int32) (v4 : Int32) (v5 : Int32) (v6 : Int32) (v7 : Int32) (t_thrown : Int32) (t_yearGain : Nat → Int32) (t_most : Nat → Int32) (t_hasOne : Int32) (t_oneIs : Nat → Int32) : Option (Int32 × Int32 × (Nat → Int32) × (Nat → Int32) × Int32 × (Nat → Int32)) := lpC (st_X12_one t_s p1 p2) (.inr (.inr (.inr ((v3, v4, v5, v6, v7, t_thrown, t_yearGain, t_most, t_hasOne, t_oneIs)))))
theorem gq_X12_one_0 (t_s : Nat → Int32) (p1 : Int32) (p2 : Int32) (k0 : Int32) (t_thrown : Int32) (t_yearGain : Nat → Int32) (t_most : Nat → Int32) (t_hasOne : Int32) (t_oneIs : Nat → Int32) : gn_X12_one_0 t_s p1 p2 k0 t_thrown t_yearGain t_most t_hasOne t_oneIs =
    Option.bind (dn_X12_oneOf t_most t_s t_yearGain p1 p2 (t_s (2 : Int32).toNatClampNeg)) fun q6 =>
    gn_X12_one_1 t_s p1 p2 k0 q6.1 1 0 0 t_thrown q6.2.1 q6.2.2 t_hasOne t_oneIs := by
  rw [gn_X12_one_0, lpC_eq]
  show lpO _ (bd_X12_one_0 t_s p1 p2 k0 t_thrown t_yearGain t_most t_hasOne t_oneIs) = _
  unfold bd_X12_one_0
  simp only [lpO_ite, lpO_bind, lpO_none, lpO_l, lpO_r]
  try rfl
theorem gq_X12_one_1 (t_s : Nat → Int32) (p1 : Int32) (p2 : Int32) (v3 : Int32) (v4 : Int32) (v5 : Int32) (v6 : Int32) (v7 : Int32) (t_thrown : Int32) (t_yearGain : Nat → Int32) (t_most : Nat → Int32) (t_hasOne : Int32) (t_oneIs : Nat → Int32) : gn_X12_one_1 t_s p1 p2 v3 v4 v5 v6 v7 t_thrown t_yearGain t_most t_hasOne t_oneIs =
    if (60 : Int32) ≤ v7 then
      some (v4, t_thrown, t_yearGain, t_most, 1, t_oneIs)
    else
      gn_X12_one_2 t_s p1 p2 v3 v4 v5 v6 v7 0 t_thrown t_yearGain t_most t_hasOne t_oneIs := by
  rw [gn_X12_one_1, lpC_eq]
  show lpO _ (bd_X12_one_1 t_s p1 p2 v3 v4 v5 v6 v7 t_thrown t_yearGain t_most t_hasOne t_oneIs) = _
  unfold bd_X12_one_1
  simp only [lpO_ite, lpO_bind, lpO_none, lpO_l, lpO_r]
  try rfl
theorem gq_X12_one_2 (t_s : Nat → Int32) (p1 : Int32) (p2 : Int32) (v3 : Int32) (v4 : Int32) (v5 : Int32) (v6 : Int32) (v7 : Int32) (v8 : Int32) (t_thrown : Int32) (t_yearGain : Nat → Int32) (t_most : Nat → Int32) (t_hasOne : Int32) (t_oneIs : Nat → Int32) : gn_X12_one_2 t_s p1 p2 v3 v4 v5 v6 v7 v8 t_thrown t_yearGain t_most t_hasOne t_oneIs =
    Option.bind (dn_X12_from t_most t_yearGain v7 v5 v6 v8 v3) fun q8 =>
    Option.bind (dn_X12_bindAt v7 v5 v6) fun q9 =>
    if inb q9 7381 = true then
    if q8 = (t_most (q9).toNatClampNeg) then
      if inb v7 60 = true then
      if v8 ≤ 0 then
        gn_X12_one_3 t_s p1 p2 v3 v4 v5 v6 v7 t_thrown t_yearGain t_most t_hasOne (upd t_oneIs (v7).toNatClampNeg v8)
      else
        if v6 = 0 then
          gn_X12_one_3 t_s p1 p2 v3 v4 v8 v3 v7 t_thrown t_yearGain t_most t_hasOne (upd t_oneIs (v7).toNatClampNeg v8)
        else
          gn_X12_one_3 t_s p1 p2 v3 v4 v5 v6 v7 t_thrown t_yearGain t_most t_hasOne (upd t_oneIs (v7).toNatClampNeg v8)
      else none
    else
      gn_X12_one_2 t_s p1 p2 v3 v4 v5 v6 v7 (v8 + 1) t_thrown t_yearGain t_most t_hasOne t_oneIs
    else none := by
  rw [gn_X12_one_2, lpC_eq]
  show lpO _ (bd_X12_one_2 t_s p1 p2 v3 v4 v5 v6 v7 v8 t_thrown t_yearGain t_most t_hasOne t_oneIs) = _
  unfold bd_X12_one_2
  simp only [lpO_ite, lpO_bind, lpO_none, lpO_l, lpO_r]
  try rfl
theorem gq_X12_one_3 (t_s : Nat → Int32) (p1 : Int32) (p2 : Int32) (v3 : Int32) (v4 : Int32) (v5 : Int32) (v6 : Int32) (v7 : Int32) (t_thrown : Int32) (t_yearGain : Nat → Int32) (t_most : Nat → Int32) (t_hasOne : Int32) (t_oneIs : Nat → Int32) : gn_X12_one_3 t_s p1 p2 v3 v4 v5 v6 v7 t_thrown t_yearGain t_most t_hasOne t_oneIs =
    if v6 ≤ 0 then
      gn_X12_one_1 t_s p1 p2 v3 v4 v5 0 (v7 + 1) t_thrown t_yearGain t_most t_hasOne t_oneIs
    else
      gn_X12_one_1 t_s p1 p2 v3 v4 v5 (v6 - 1) (v7 + 1) t_thrown t_yearGain t_most t_hasOne t_oneIs := by
  rw [gn_X12_one_3, lpC_eq]
  show lpO _ (bd_X12_one_3 t_s p1 p2 v3 v4 v5 v6 v7 t_thrown t_yearGain t_most t_hasOne t_oneIs) = _
  unfold bd_X12_one_3
  simp only [lpO_ite, lpO_bind, lpO_none, lpO_l, lpO_r]
  try rfl
noncomputable def dn_X12_one (t_hasOne : Int32) (t_most : Nat → Int32) (t_oneIs : Nat → Int32) (t_s : Nat → Int32) (t_yearGain : Nat → Int32) (p1 : Int32) (p2 : Int32) : Option (Int32 × Int32 × (Nat → Int32) × (Nat → Int32) × Int32 × (Nat → Int32)) :=
  Option.bind (dn_X12_isPerson t_s p1) fun q1 =>
  if q1 = true then
    Option.bind (dn_X12_isParts t_s p2) fun q3 =>
    if q3 = true then
      if (t_s (2 : Int32).toNatClampNeg) = 0 then
        gn_X12_one_0 t_s p1 p2 60 0 t_yearGain t_most t_hasOne t_oneIs
      else
        gn_X12_one_0 t_s p1 p2 (t_s (2 : Int32).toNatClampNeg) 0 t_yearGain t_most t_hasOne t_oneIs
    else
      some ((-1), 0, t_yearGain, t_most, t_hasOne, t_oneIs)
  else
    some ((-1), 0, t_yearGain, t_most, t_hasOne, t_oneIs)
noncomputable def dn_X12_oneBy (t_most : Nat → Int32) (t_s : Nat → Int32) (t_yearGain : Nat → Int32) (p1 : Int32) (p2 : Int32) (p3 : Int32) : Option (Int32 × Int32 × (Nat → Int32) × (Nat → Int32)) :=
  Option.bind (dn_X12_isPerson t_s p1) fun q1 =>
  if q1 = true then
    Option.bind (dn_X12_isParts t_s p2) fun q3 =>
    if q3 = true then
      Option.bind (dn_X12_isIn p3 0 60) fun q5 =>
      if q5 = true then
        Option.bind (dn_X12_oneOf t_most t_s t_yearGain p1 p2 p3) fun q7 =>
        some (q7.1, 0, q7.2.1, q7.2.2)
      else
        some ((-1), 0, t_yearGain, t_most)
    else
      some ((-1), 0, t_yearGain, t_most)
  else
    some ((-1), 0, t_yearGain, t_most)
noncomputable def dn_X12_oneIs (t_hasOne : Int32) (t_oneIs : Nat → Int32) (p1 : Int32) : Option (Int32 × Int32) :=
  if t_hasOne = 0 then
    some ((-1), 0)
  else
    Option.bind (dn_X12_isIn p1 0 59) fun q2 =>
    if q2 = true then
      if inb p1 60 = true then
      some (t_oneIs (p1).toNatClampNeg, 0)
      else none
    else
      some ((-1), 0)
noncomputable def bd_X12_byYears_0 (t_s : Nat → Int32) (v1 : Int32) (v2 : Int32) (t_order : Nat → Int32) : Option (((Int32 × Int32 × (Nat → Int32)) ⊕ ((Int32 × Int32 × Int32 × (Nat → Int32)))) ⊕ ((Nat → Int32))) :=
  if (60 : Int32) ≤ v2 then
    some (.inr t_order)
  else
    some (.inl (.inr ((v1, v2, 0, t_order))))
noncomputable def bd_X12_byYears_1 (t_s : Nat → Int32) (v1 : Int32) (v2 : Int32) (v3 : Int32) (t_order : Nat → Int32) : Option (((Int32 × Int32 × (Nat → Int32)) ⊕ ((Int32 × Int32 × Int32 × (Nat → Int32)))) ⊕ ((Nat → Int32))) :=
  if (t_s (1 : Int32).toNatClampNeg) ≤ v3 then
    some (.inl (.inl (v1, v2 + 1, t_order)))
  else
    Option.bind (dn_X12_of t_s v3 2) fun q3 =>
    if q3 = v2 then
      if inb v1 30 = true then
      some (.inl (.inr ((v1 + 1, v2, v3 + 1, upd t_order (v1).toNatClampNeg v3))))
      else none
    else
      some (.inl (.inr ((v1, v2, v3 + 1, t_order))))
noncomputable def st_X12_byYears (t_s : Nat → Int32) : ((Int32 × Int32 × (Nat → Int32)) ⊕ ((Int32 × Int32 × Int32 × (Nat → Int32)))) → Option (((Int32 × Int32 × (Nat → Int32)) ⊕ ((Int32 × Int32 × Int32 × (Nat → Int32)))) ⊕ ((Nat → Int32))) := fun s => match s with
  | .inl (v1, v2, t_order) => bd_X12_byYears_0 t_s v1 v2 t_order
  | .inr ((v1, v2, v3, t_order)) => bd_X12_byYears_1 t_s v1 v2 v3 t_order
noncomputable def gn_X12_byYears_0 (t_s : Nat → Int32) (v1 : Int32) (v2 : Int32) (t_order : Nat → Int32) : Option ((Nat → Int32)) := lpC (st_X12_byYears t_s) (.inl (v1, v2, t_order))
noncomputable def gn_X12_byYears_1 (t_s : Nat → Int32) (v1 : Int32) (v2 : Int32) (v3 : Int32) (t_order : Nat → Int32) : Option ((Nat → Int32)) := lpC (st_X12_byYears t_s) (.inr ((v1, v2, v3, t_order)))
theorem gq_X12_byYears_0 (t_s : Nat → Int32) (v1 : Int32) (v2 : Int32) (t_order : Nat → Int32) : gn_X12_byYears_0 t_s v1 v2 t_order =
    if (60 : Int32) ≤ v2 then
      some t_order
    else
      gn_X12_byYears_1 t_s v1 v2 0 t_order := by
  rw [gn_X12_byYears_0, lpC_eq]
  show lpO _ (bd_X12_byYears_0 t_s v1 v2 t_order) = _
  unfold bd_X12_byYears_0
  simp only [lpO_ite, lpO_bind, lpO_none, lpO_l, lpO_r]
  try rfl
theorem gq_X12_byYears_1 (t_s : Nat → Int32) (v1 : Int32) (v2 : Int32) (v3 : Int32) (t_order : Nat → Int32) : gn_X12_byYears_1 t_s v1 v2 v3 t_order =
    if (t_s (1 : Int32).toNatClampNeg) ≤ v3 then
      gn_X12_byYears_0 t_s v1 (v2 + 1) t_order
    else
      Option.bind (dn_X12_of t_s v3 2) fun q3 =>
      if q3 = v2 then
        if inb v1 30 = true then
        gn_X12_byYears_1 t_s (v1 + 1) v2 (v3 + 1) (upd t_order (v1).toNatClampNeg v3)
        else none
      else
        gn_X12_byYears_1 t_s v1 v2 (v3 + 1) t_order := by
  rw [gn_X12_byYears_1, lpC_eq]
  show lpO _ (bd_X12_byYears_1 t_s v1 v2 v3 t_order) = _
  unfold bd_X12_byYears_1
  simp only [lpO_ite, lpO_bind, lpO_none, lpO_l, lpO_r]
  try rfl
noncomputable def dn_X12_byYears (t_order : Nat → Int32) (t_s : Nat → Int32) : Option ((Nat → Int32)) :=
  gn_X12_byYears_0 t_s 0 0 t_order
noncomputable def bd_X12_keepDone_0 (t_s : Nat → Int32) (v1 : Int32) (t_didKept : Nat → Int32) : Option (((Int32 × (Nat → Int32))) ⊕ ((Nat → Int32))) :=
  if (60 : Int32) ≤ v1 then
    some (.inr t_didKept)
  else
    if inb ((224 : Int32) + v1) 284 = true then
    if inb v1 61 = true then
    some (.inl (v1 + 1, upd t_didKept (v1).toNatClampNeg (t_s (((224 : Int32) + v1)).toNatClampNeg)))
    else none
    else none
noncomputable def st_X12_keepDone (t_s : Nat → Int32) : ((Int32 × (Nat → Int32))) → Option (((Int32 × (Nat → Int32))) ⊕ ((Nat → Int32))) := fun s => match s with
  | (v1, t_didKept) => bd_X12_keepDone_0 t_s v1 t_didKept
noncomputable def gn_X12_keepDone_0 (t_s : Nat → Int32) (v1 : Int32) (t_didKept : Nat → Int32) : Option ((Nat → Int32)) := lpC (st_X12_keepDone t_s) ((v1, t_didKept))
theorem gq_X12_keepDone_0 (t_s : Nat → Int32) (v1 : Int32) (t_didKept : Nat → Int32) : gn_X12_keepDone_0 t_s v1 t_didKept =
    if (60 : Int32) ≤ v1 then
      some t_didKept
    else
      if inb ((224 : Int32) + v1) 284 = true then
      if inb v1 61 = true then
      gn_X12_keepDone_0 t_s (v1 + 1) (upd t_didKept (v1).toNatClampNeg (t_s (((224 : Int32) + v1)).toNatClampNeg))
      else none
      else none := by
  rw [gn_X12_keepDone_0, lpC_eq]
  show lpO _ (bd_X12_keepDone_0 t_s v1 t_didKept) = _
  unfold bd_X12_keepDone_0
  simp only [lpO_ite, lpO_bind, lpO_none, lpO_l, lpO_r]
  try rfl
noncomputable def dn_X12_keepDone (t_didKept : Nat → Int32) (t_s : Nat → Int32) : Option ((Nat → Int32)) :=
  gn_X12_keepDone_0 t_s 0 (upd t_didKept (60 : Int32).toNatClampNeg (t_s (3 : Int32).toNatClampNeg))
noncomputable def bd_X12_backDone_0 (t_didKept : Nat → Int32) (v1 : Int32) (t_s : Nat → Int32) : Option (((Int32 × (Nat → Int32))) ⊕ ((Nat → Int32))) :=
  if (60 : Int32) ≤ v1 then
    some (.inr t_s)
  else
    if inb v1 61 = true then
    if inb ((224 : Int32) + v1) 284 = true then
    some (.inl (v1 + 1, upd t_s ((224 : Int32) + v1).toNatClampNeg (t_didKept (v1).toNatClampNeg)))
    else none
    else none
noncomputable def st_X12_backDone (t_didKept : Nat → Int32) : ((Int32 × (Nat → Int32))) → Option (((Int32 × (Nat → Int32))) ⊕ ((Nat → Int32))) := fun s => match s with
  | (v1, t_s) => bd_X12_backDone_0 t_didKept v1 t_s
noncomputable def gn_X12_backDone_0 (t_didKept : Nat → Int32) (v1 : Int32) (t_s : Nat → Int32) : Option ((Nat → Int32)) := lpC (st_X12_backDone t_didKept) ((v1, t_s))
theorem gq_X12_backDone_0 (t_didKept : Nat → Int32) (v1 : Int32) (t_s : Nat → Int32) : gn_X12_backDone_0 t_didKept v1 t_s =
    if (60 : Int32) ≤ v1 then
      some t_s
    else
      if inb v1 61 = true then
      if inb ((224 : Int32) + v1) 284 = true then
      gn_X12_backDone_0 t_didKept (v1 + 1) (upd t_s ((224 : Int32) + v1).toNatClampNeg (t_didKept (v1).toNatClampNeg))
      else none
      else none := by
  rw [gn_X12_backDone_0, lpC_eq]
  show lpO _ (bd_X12_backDone_0 t_didKept v1 t_s) = _
  unfold bd_X12_backDone_0
  simp only [lpO_ite, lpO_bind, lpO_none, lpO_l, lpO_r]
  try rfl
noncomputable def dn_X12_backDone (t_didKept : Nat → Int32) (t_s : Nat → Int32) : Option ((Nat → Int32)) :=
  gn_X12_backDone_0 t_didKept 0 (upd t_s (3 : Int32).toNatClampNeg (t_didKept (60 : Int32).toNatClampNeg))
noncomputable def bd_X12_lawful_0  (v1 : Int32) (v2 : Int32) (v3 : Int32) (t_thrown : Int32) (t_order : Nat → Int32) (t_didKept : Nat → Int32) (t_s : Nat → Int32) (t_tried : Nat → Int32) (t_lawfulMany : Int32) (t_boundAs : Nat → Int32) (t_boundFrom : Nat → Int32) (t_lawfulBy : Nat → Int32) : Option (((Int32 × Int32 × Int32 × Int32 × (Nat → Int32) × (Nat → Int32) × (Nat → Int32) × (Nat → Int32) × Int32 × (Nat → Int32) × (Nat → Int32) × (Nat → Int32)) ⊕ ((Int32 × Int32 × Int32 × Int32 × Int32 × (Nat → Int32) × (Nat → Int32) × (Nat → Int32) × (Nat → Int32) × Int32 × (Nat → Int32) × (Nat → Int32) × (Nat → Int32)) ⊕ ((Int32 × Int32 × Int32 × Int32 × Int32 × (Nat → Int32) × (Nat → Int32) × (Nat → Int32) × (Nat → Int32) × Int32 × (Nat → Int32) × (Nat → Int32) × (Nat → Int32)) ⊕ ((Int32 × Int32 × Int32 × Int32 × Int32 × (Nat → Int32) × (Nat → Int32) × (Nat → Int32) × (Nat → Int32) × Int32 × (Nat → Int32) × (Nat → Int32) × (Nat → Int32)) ⊕ ((Int32 × Int32 × Int32 × Int32 × (Nat → Int32) × (Nat → Int32) × (Nat → Int32) × (Nat → Int32) × Int32 × (Nat → Int32) × (Nat → Int32) × (Nat → Int32))))))) ⊕ (Int32 × Int32 × (Nat → Int32) × (Nat → Int32) × (Nat → Int32) × (Nat → Int32) × Int32 × (Nat → Int32) × (Nat → Int32) × (Nat → Int32))) :=
  if v2 < 0 then
    Option.bind (dn_X12_backDone t_didKept t_s) fun q5 =>
    some (.inr (v1, t_thrown, t_order, t_didKept, q5, t_tried, q5 (1 : Int32).toNatClampNeg, t_boundAs, t_boundFrom, t_lawfulBy))
  else
    if v2 = (t_s (1 : Int32).toNatClampNeg) then
      if v3 ≤ v1 then
        some (.inl (.inl (v1, v2 + (-1), v3, t_thrown, t_order, t_didKept, t_s, t_tried, t_lawfulMany, t_boundAs, t_boundFrom, t_lawfulBy)))
      else
        some (.inl (.inr (.inr (.inl (v3, v2, v3, 0, t_thrown, t_order, t_didKept, t_s, t_tried, t_lawfulMany, t_boundAs, t_boundFrom, t_lawfulBy)))))
    else
      if inb v2 30 = true then
      if inb v2 12 = true then
      if (t_tried (v2).toNatClampNeg) ≤ 0 then
        if inb v2 12 = true then
        if inb v2 12 = true then
        some (.inl (.inr (.inl (v1, v2, v3, t_order (v2).toNatClampNeg, t_thrown, t_order, t_didKept, t_s, upd t_tried (v2).toNatClampNeg ((t_tried (v2).toNatClampNeg) + 1), t_lawfulMany, t_boundAs, t_boundFrom, t_lawfulBy))))
        else none
        else none
      else
        Option.bind (dn_X12_of (upd t_s (3 : Int32).toNatClampNeg ((t_s (3 : Int32).toNatClampNeg) - 1)) (t_order (v2).toNatClampNeg) 3) fun q12 =>
        Option.bind (dn_X12_of (upd t_s (3 : Int32).toNatClampNeg ((t_s (3 : Int32).toNatClampNeg) - 1)) (t_order (v2).toNatClampNeg) 4) fun q13 =>
        if inb v2 12 = true then
        if inb v2 12 = true then
        some (.inl (.inr (.inl (v1, v2, v3 - (q12 + q13), t_order (v2).toNatClampNeg, t_thrown, t_order, t_didKept, upd t_s (3 : Int32).toNatClampNeg ((t_s (3 : Int32).toNatClampNeg) - 1), upd t_tried (v2).toNatClampNeg ((t_tried (v2).toNatClampNeg) + 1), t_lawfulMany, t_boundAs, t_boundFrom, t_lawfulBy))))
        else none
        else none
      else none
      else none
noncomputable def bd_X12_lawful_1  (v1 : Int32) (v2 : Int32) (v3 : Int32) (v4 : Int32) (t_thrown : Int32) (t_order : Nat → Int32) (t_didKept : Nat → Int32) (t_s : Nat → Int32) (t_tried : Nat → Int32) (t_lawfulMany : Int32) (t_boundAs : Nat → Int32) (t_boundFrom : Nat → Int32) (t_lawfulBy : Nat → Int32) : Option (((Int32 × Int32 × Int32 × Int32 × (Nat → Int32) × (Nat → Int32) × (Nat → Int32) × (Nat → Int32) × Int32 × (Nat → Int32) × (Nat → Int32) × (Nat → Int32)) ⊕ ((Int32 × Int32 × Int32 × Int32 × Int32 × (Nat → Int32) × (Nat → Int32) × (Nat → Int32) × (Nat → Int32) × Int32 × (Nat → Int32) × (Nat → Int32) × (Nat → Int32)) ⊕ ((Int32 × Int32 × Int32 × Int32 × Int32 × (Nat → Int32) × (Nat → Int32) × (Nat → Int32) × (Nat → Int32) × Int32 × (Nat → Int32) × (Nat → Int32) × (Nat → Int32)) ⊕ ((Int32 × Int32 × Int32 × Int32 × Int32 × (Nat → Int32) × (Nat → Int32) × (Nat → Int32) × (Nat → Int32) × Int32 × (Nat → Int32) × (Nat → Int32) × (Nat → Int32)) ⊕ ((Int32 × Int32 × Int32 × Int32 × (Nat → Int32) × (Nat → Int32) × (Nat → Int32) × (Nat → Int32) × Int32 × (Nat → Int32) × (Nat → Int32) × (Nat → Int32))))))) ⊕ (Int32 × Int32 × (Nat → Int32) × (Nat → Int32) × (Nat → Int32) × (Nat → Int32) × Int32 × (Nat → Int32) × (Nat → Int32) × (Nat → Int32))) :=
  if inb v2 12 = true then
  if (t_tried (v2).toNatClampNeg) ≤ 0 then
    some (.inl (.inr (.inr (.inr (.inl (v1, v2, v3, v4, t_thrown, t_order, t_didKept, t_s, t_tried, t_lawfulMany, t_boundAs, t_boundFrom, t_lawfulBy))))))
  else
    if inb v2 12 = true then
    if (3 : Int32) ≤ (t_tried (v2).toNatClampNeg) then
      some (.inl (.inr (.inr (.inr (.inl (v1, v2, v3, v4, t_thrown, t_order, t_didKept, t_s, t_tried, t_lawfulMany, t_boundAs, t_boundFrom, t_lawfulBy))))))
    else
      if inb v2 12 = true then
      Option.bind (dn_X12_wrong t_boundAs t_boundFrom t_s v4 ((t_tried (v2).toNatClampNeg) - 1)) fun q22 =>
      if q22.1 ≤ 0 then
        some (.inl (.inr (.inr (.inr (.inl (v1, v2, v3, v4, t_thrown, t_order, t_didKept, t_s, t_tried, t_lawfulMany, q22.2.1, q22.2.2, t_lawfulBy))))))
      else
        if inb v2 12 = true then
        if inb v2 12 = true then
        some (.inl (.inr (.inl (v1, v2, v3, v4, t_thrown, t_order, t_didKept, t_s, upd t_tried (v2).toNatClampNeg ((t_tried (v2).toNatClampNeg) + 1), t_lawfulMany, q22.2.1, q22.2.2, t_lawfulBy))))
        else none
        else none
      else none
    else none
  else none
noncomputable def bd_X12_lawful_2  (v1 : Int32) (v2 : Int32) (v3 : Int32) (v4 : Int32) (t_thrown : Int32) (t_order : Nat → Int32) (t_didKept : Nat → Int32) (t_s : Nat → Int32) (t_tried : Nat → Int32) (t_lawfulMany : Int32) (t_boundAs : Nat → Int32) (t_boundFrom : Nat → Int32) (t_lawfulBy : Nat → Int32) : Option (((Int32 × Int32 × Int32 × Int32 × (Nat → Int32) × (Nat → Int32) × (Nat → Int32) × (Nat → Int32) × Int32 × (Nat → Int32) × (Nat → Int32) × (Nat → Int32)) ⊕ ((Int32 × Int32 × Int32 × Int32 × Int32 × (Nat → Int32) × (Nat → Int32) × (Nat → Int32) × (Nat → Int32) × Int32 × (Nat → Int32) × (Nat → Int32) × (Nat → Int32)) ⊕ ((Int32 × Int32 × Int32 × Int32 × Int32 × (Nat → Int32) × (Nat → Int32) × (Nat → Int32) × (Nat → Int32) × Int32 × (Nat → Int32) × (Nat → Int32) × (Nat → Int32)) ⊕ ((Int32 × Int32 × Int32 × Int32 × Int32 × (Nat → Int32) × (Nat → Int32) × (Nat → Int32) × (Nat → Int32) × Int32 × (Nat → Int32) × (Nat → Int32) × (Nat → Int32)) ⊕ ((Int32 × Int32 × Int32 × Int32 × (Nat → Int32) × (Nat → Int32) × (Nat → Int32) × (Nat → Int32) × Int32 × (Nat → Int32) × (Nat → Int32) × (Nat → Int32))))))) ⊕ (Int32 × Int32 × (Nat → Int32) × (Nat → Int32) × (Nat → Int32) × (Nat → Int32) × Int32 × (Nat → Int32) × (Nat → Int32) × (Nat → Int32))) :=
  if v2 ≤ v4 then
    some (.inl (.inl (v1, v2 + (-1), v3, t_thrown, t_order, t_didKept, t_s, t_tried, t_lawfulMany, t_boundAs, t_boundFrom, t_lawfulBy)))
  else
    if inb v4 30 = true then
    if inb v4 12 = true then
    if inb (t_order (v4).toNatClampNeg) 12 = true then
    some (.inl (.inr (.inr (.inl (v1, v2, v3, v4 + 1, t_thrown, t_order, t_didKept, t_s, t_tried, t_lawfulMany, t_boundAs, t_boundFrom, upd t_lawfulBy (t_order (v4).toNatClampNeg).toNatClampNeg (t_tried (v4).toNatClampNeg))))))
    else none
    else none
    else none
noncomputable def bd_X12_lawful_3  (v1 : Int32) (v2 : Int32) (v3 : Int32) (v4 : Int32) (t_thrown : Int32) (t_order : Nat → Int32) (t_didKept : Nat → Int32) (t_s : Nat → Int32) (t_tried : Nat → Int32) (t_lawfulMany : Int32) (t_boundAs : Nat → Int32) (t_boundFrom : Nat → Int32) (t_lawfulBy : Nat → Int32) : Option (((Int32 × Int32 × Int32 × Int32 × (Nat → Int32) × (Nat → Int32) × (Nat → Int32) × (Nat → Int32) × Int32 × (Nat → Int32) × (Nat → Int32) × (Nat → Int32)) ⊕ ((Int32 × Int32 × Int32 × Int32 × Int32 × (Nat → Int32) × (Nat → Int32) × (Nat → Int32) × (Nat → Int32) × Int32 × (Nat → Int32) × (Nat → Int32) × (Nat → Int32)) ⊕ ((Int32 × Int32 × Int32 × Int32 × Int32 × (Nat → Int32) × (Nat → Int32) × (Nat → Int32) × (Nat → Int32) × Int32 × (Nat → Int32) × (Nat → Int32) × (Nat → Int32)) ⊕ ((Int32 × Int32 × Int32 × Int32 × Int32 × (Nat → Int32) × (Nat → Int32) × (Nat → Int32) × (Nat → Int32) × Int32 × (Nat → Int32) × (Nat → Int32) × (Nat → Int32)) ⊕ ((Int32 × Int32 × Int32 × Int32 × (Nat → Int32) × (Nat → Int32) × (Nat → Int32) × (Nat → Int32) × Int32 × (Nat → Int32) × (Nat → Int32) × (Nat → Int32))))))) ⊕ (Int32 × Int32 × (Nat → Int32) × (Nat → Int32) × (Nat → Int32) × (Nat → Int32) × Int32 × (Nat → Int32) × (Nat → Int32) × (Nat → Int32))) :=
  if inb v2 12 = true then
  if (t_tried (v2).toNatClampNeg) = 3 then
    some (.inl (.inl (v1, v2 + (-1), v3, t_thrown, t_order, t_didKept, t_s, t_tried, t_lawfulMany, t_boundAs, t_boundFrom, t_lawfulBy)))
  else
    if inb v2 12 = true then
    if (t_tried (v2).toNatClampNeg) ≤ 0 then
      some (.inl (.inr (.inr (.inr (.inr ((v1, v2, v3, t_thrown, t_order, t_didKept, t_s, t_tried, t_lawfulMany, t_boundAs, t_boundFrom, t_lawfulBy)))))))
    else
      if inb v2 12 = true then
      Option.bind (dn_X12_put t_s v4 ((t_tried (v2).toNatClampNeg) - 1)) fun q35 =>
      Option.bind (dn_X12_of q35 v4 3) fun q36 =>
      Option.bind (dn_X12_of q35 v4 4) fun q37 =>
      some (.inl (.inr (.inr (.inr (.inr ((v1, v2, v3 + (q36 + q37), t_thrown, t_order, t_didKept, q35, t_tried, t_lawfulMany, t_boundAs, t_boundFrom, t_lawfulBy)))))))
      else none
    else none
  else none
noncomputable def bd_X12_lawful_4  (v1 : Int32) (v2 : Int32) (v3 : Int32) (t_thrown : Int32) (t_order : Nat → Int32) (t_didKept : Nat → Int32) (t_s : Nat → Int32) (t_tried : Nat → Int32) (t_lawfulMany : Int32) (t_boundAs : Nat → Int32) (t_boundFrom : Nat → Int32) (t_lawfulBy : Nat → Int32) : Option (((Int32 × Int32 × Int32 × Int32 × (Nat → Int32) × (Nat → Int32) × (Nat → Int32) × (Nat → Int32) × Int32 × (Nat → Int32) × (Nat → Int32) × (Nat → Int32)) ⊕ ((Int32 × Int32 × Int32 × Int32 × Int32 × (Nat → Int32) × (Nat → Int32) × (Nat → Int32) × (Nat → Int32) × Int32 × (Nat → Int32) × (Nat → Int32) × (Nat → Int32)) ⊕ ((Int32 × Int32 × Int32 × Int32 × Int32 × (Nat → Int32) × (Nat → Int32) × (Nat → Int32) × (Nat → Int32) × Int32 × (Nat → Int32) × (Nat → Int32) × (Nat → Int32)) ⊕ ((Int32 × Int32 × Int32 × Int32 × Int32 × (Nat → Int32) × (Nat → Int32) × (Nat → Int32) × (Nat → Int32) × Int32 × (Nat → Int32) × (Nat → Int32) × (Nat → Int32)) ⊕ ((Int32 × Int32 × Int32 × Int32 × (Nat → Int32) × (Nat → Int32) × (Nat → Int32) × (Nat → Int32) × Int32 × (Nat → Int32) × (Nat → Int32) × (Nat → Int32))))))) ⊕ (Int32 × Int32 × (Nat → Int32) × (Nat → Int32) × (Nat → Int32) × (Nat → Int32) × Int32 × (Nat → Int32) × (Nat → Int32) × (Nat → Int32))) :=
  if (t_s (1 : Int32).toNatClampNeg) ≤ (v2 + 1) then
    some (.inl (.inl (v1, v2 + 1, v3, t_thrown, t_order, t_didKept, t_s, t_tried, t_lawfulMany, t_boundAs, t_boundFrom, t_lawfulBy)))
  else
    if inb (v2 + 1) 12 = true then
    some (.inl (.inl (v1, v2 + 1, v3, t_thrown, t_order, t_didKept, t_s, upd t_tried (v2 + 1).toNatClampNeg (-1), t_lawfulMany, t_boundAs, t_boundFrom, t_lawfulBy)))
    else none
noncomputable def st_X12_lawful  : ((Int32 × Int32 × Int32 × Int32 × (Nat → Int32) × (Nat → Int32) × (Nat → Int32) × (Nat → Int32) × Int32 × (Nat → Int32) × (Nat → Int32) × (Nat → Int32)) ⊕ ((Int32 × Int32 × Int32 × Int32 × Int32 × (Nat → Int32) × (Nat → Int32) × (Nat → Int32) × (Nat → Int32) × Int32 × (Nat → Int32) × (Nat → Int32) × (Nat → Int32)) ⊕ ((Int32 × Int32 × Int32 × Int32 × Int32 × (Nat → Int32) × (Nat → Int32) × (Nat → Int32) × (Nat → Int32) × Int32 × (Nat → Int32) × (Nat → Int32) × (Nat → Int32)) ⊕ ((Int32 × Int32 × Int32 × Int32 × Int32 × (Nat → Int32) × (Nat → Int32) × (Nat → Int32) × (Nat → Int32) × Int32 × (Nat → Int32) × (Nat → Int32) × (Nat → Int32)) ⊕ ((Int32 × Int32 × Int32 × Int32 × (Nat → Int32) × (Nat → Int32) × (Nat → Int32) × (Nat → Int32) × Int32 × (Nat → Int32) × (Nat → Int32) × (Nat → Int32))))))) → Option (((Int32 × Int32 × Int32 × Int32 × (Nat → Int32) × (Nat → Int32) × (Nat → Int32) × (Nat → Int32) × Int32 × (Nat → Int32) × (Nat → Int32) × (Nat → Int32)) ⊕ ((Int32 × Int32 × Int32 × Int32 × Int32 × (Nat → Int32) × (Nat → Int32) × (Nat → Int32) × (Nat → Int32) × Int32 × (Nat → Int32) × (Nat → Int32) × (Nat → Int32)) ⊕ ((Int32 × Int32 × Int32 × Int32 × Int32 × (Nat → Int32) × (Nat → Int32) × (Nat → Int32) × (Nat → Int32) × Int32 × (Nat → Int32) × (Nat → Int32) × (Nat → Int32)) ⊕ ((Int32 × Int32 × Int32 × Int32 × Int32 × (Nat → Int32) × (Nat → Int32) × (Nat → Int32) × (Nat → Int32) × Int32 × (Nat → Int32) × (Nat → Int32) × (Nat → Int32)) ⊕ ((Int32 × Int32 × Int32 × Int32 × (Nat → Int32) × (Nat → Int32) × (Nat → Int32) × (Nat → Int32) × Int32 × (Nat → Int32) × (Nat → Int32) × (Nat → Int32))))))) ⊕ (Int32 × Int32 × (Nat → Int32) × (Nat → Int32) × (Nat → Int32) × (Nat → Int32) × Int32 × (Nat → Int32) × (Nat → Int32) × (Nat → Int32))) := fun s => match s with
  | .inl (v1, v2, v3, t_thrown, t_order, t_didKept, t_s, t_tried, t_lawfulMany, t_boundAs, t_boundFrom, t_lawfulBy) => bd_X12_lawful_0  v1 v2 v3 t_thrown t_order t_didKept t_s t_tried t_lawfulMany t_boundAs t_boundFrom t_lawfulBy
  | .inr (.inl (v1, v2, v3, v4, t_thrown, t_order, t_didKept, t_s, t_tried, t_lawfulMany, t_boundAs, t_boundFrom, t_lawfulBy)) => bd_X12_lawful_1  v1 v2 v3 v4 t_thrown t_order t_didKept t_s t_tried t_lawfulMany t_boundAs t_boundFrom t_lawfulBy
  | .inr (.inr (.inl (v1, v2, v3, v4, t_thrown, t_order, t_didKept, t_s, t_tried, t_lawfulMany, t_boundAs, t_boundFrom, t_lawfulBy))) => bd_X12_lawful_2  v1 v2 v3 v4 t_thrown t_order t_didKept t_s t_tried t_lawfulMany t_boundAs t_boundFrom t_lawfulBy
  | .inr (.inr (.inr (.inl (v1, v2, v3, v4, t_thrown, t_order, t_didKept, t_s, t_tried, t_lawfulMany, t_boundAs, t_boundFrom, t_lawfulBy)))) => bd_X12_lawful_3  v1 v2 v3 v4 t_thrown t_order t_didKept t_s t_tried t_lawfulMany t_boundAs t_boundFrom t_lawfulBy
  | .inr (.inr (.inr (.inr ((v1, v2, v3, t_thrown, t_order, t_didKept, t_s, t_tried, t_lawfulMany, t_boundAs, t_boundFrom, t_lawfulBy))))) => bd_X12_lawful_4  v1 v2 v3 t_thrown t_order t_didKept t_s t_tried t_lawfulMany t_boundAs t_boundFrom t_lawfulBy
noncomputable def gn_X12_lawful_0  (v1 : Int32) (v2 : Int32) (v3 : Int32) (t_thrown : Int32) (t_order : Nat → Int32) (t_didKept : Nat → Int32) (t_s : Nat → Int32) (t_tried : Nat → Int32) (t_lawfulMany : Int32) (t_boundAs : Nat → Int32) (t_boundFrom : Nat → Int32) (t_lawfulBy : Nat → Int32) : Option (Int32 × Int32 × (Nat → Int32) × (Nat → Int32) × (Nat → Int32) × (Nat → Int32) × Int32 × (Nat → Int32) × (Nat → Int32) × (Nat → Int32)) := lpC (st_X12_lawful ) (.inl (v1, v2, v3, t_thrown, t_order, t_didKept, t_s, t_tried, t_lawfulMany, t_boundAs, t_boundFrom, t_lawfulBy))
noncomputable def gn_X12_lawful_1  (v1 : Int32) (v2 : Int32) (v3 : Int32) (v4 : Int32) (t_thrown : Int32) (t_order : Nat → Int32) (t_didKept : Nat → Int32) (t_s : Nat → Int32) (t_tried : Nat → Int32) (t_lawfulMany : Int32) (t_boundAs : Nat → Int32) (t_boundFrom : Nat → Int32) (t_lawfulBy : Nat → Int32) : Option (Int32 × Int32 × (Nat → Int32) × (Nat → Int32) × (Nat → Int32) × (Nat → Int32) × Int32 × (Nat → Int32) × (Nat → Int32) × (Nat → Int32)) := lpC (st_X12_lawful ) (.inr (.inl (v1, v2, v3, v4, t_thrown, t_order, t_didKept, t_s, t_tried, t_lawfulMany, t_boundAs, t_boundFrom, t_lawfulBy)))
noncomputable def gn_X12_lawful_2  (v1 : Int32) (v2 : Int32) (v3 : Int32) (v4 : Int32) (t_thrown : Int32) (t_order : Nat → Int32) (t_didKept : Nat → Int32) (t_s : Nat → Int32) (t_tried : Nat → Int32) (t_lawfulMany : Int32) (t_boundAs : Nat → Int32) (t_boundFrom : Nat → Int32) (t_lawfulBy : Nat → Int32) : Option (Int32 × Int32 × (Nat → Int32) × (Nat → Int32) × (Nat → Int32) × (Nat → Int32) × Int32 × (Nat → Int32) × (Nat → Int32) × (Nat → Int32)) := lpC (st_X12_lawful ) (.inr (.inr (.inl (v1, v2, v3, v4, t_thrown, t_order, t_didKept, t_s, t_tried, t_lawfulMany, t_boundAs, t_boundFrom, t_lawfulBy))))
noncomputable def gn_X12_lawful_3  (v1 : Int32) (v2 : Int32) (v3 : Int32) (v4 : Int32) (t_thrown : Int32) (t_order : Nat → Int32) (t_didKept : Nat → Int32) (t_s : Nat → Int32) (t_tried : Nat → Int32) (t_lawfulMany : Int32) (t_boundAs : Nat → Int32) (t_boundFrom : Nat → Int32) (t_lawfulBy : Nat → Int32) : Option (Int32 × Int32 × (Nat → Int32) × (Nat → Int32) × (Nat → Int32) × (Nat → Int32) × Int32 × (Nat → Int32) × (Nat → Int32) × (Nat → Int32)) := lpC (st_X12_lawful ) (.inr (.inr (.inr (.inl (v1, v2, v3, v4, t_thrown, t_order, t_didKept, t_s, t_tried, t_lawfulMany, t_boundAs, t_boundFrom, t_lawfulBy)))))
noncomputable def gn_X12_lawful_4  (v1 : Int32) (v2 : Int32) (v3 : Int32) (t_thrown : Int32) (t_order : Nat → Int32) (t_didKept : Nat → Int32) (t_s : Nat → Int32) (t_tried : Nat → Int32) (t_lawfulMany : Int32) (t_boundAs : Nat → Int32) (t_boundFrom : Nat → Int32) (t_lawfulBy : Nat → Int32) : Option (Int32 × Int32 × (Nat → Int32) × (Nat → Int32) × (Nat → Int32) × (Nat → Int32) × Int32 × (Nat → Int32) × (Nat → Int32) × (Nat → Int32)) := lpC (st_X12_lawful ) (.inr (.inr (.inr (.inr ((v1, v2, v3, t_thrown, t_order, t_didKept, t_s, t_tried, t_lawfulMany, t_boundAs, t_boundFrom, t_lawfulBy))))))
theorem gq_X12_lawful_0  (v1 : Int32) (v2 : Int32) (v3 : Int32) (t_thrown : Int32) (t_order : Nat → Int32) (t_didKept : Nat → Int32) (t_s : Nat → Int32) (t_tried : Nat → Int32) (t_lawfulMany : Int32) (t_boundAs : Nat → Int32) (t_boundFrom : Nat → Int32) (t_lawfulBy : Nat → Int32) : gn_X12_lawful_0  v1 v2 v3 t_thrown t_order t_didKept t_s t_tried t_lawfulMany t_boundAs t_boundFrom t_lawfulBy =
    if v2 < 0 then
      Option.bind (dn_X12_backDone t_didKept t_s) fun q5 =>
      some (v1, t_thrown, t_order, t_didKept, q5, t_tried, q5 (1 : Int32).toNatClampNeg, t_boundAs, t_boundFrom, t_lawfulBy)
    else
      if v2 = (t_s (1 : Int32).toNatClampNeg) then
        if v3 ≤ v1 then
          gn_X12_lawful_0  v1 (v2 + (-1)) v3 t_thrown t_order t_didKept t_s t_tried t_lawfulMany t_boundAs t_boundFrom t_lawfulBy
        else
          gn_X12_lawful_2  v3 v2 v3 0 t_thrown t_order t_didKept t_s t_tried t_lawfulMany t_boundAs t_boundFrom t_lawfulBy
      else
        if inb v2 30 = true then
        if inb v2 12 = true then
        if (t_tried (v2).toNatClampNeg) ≤ 0 then
          if inb v2 12 = true then
          if inb v2 12 = true then
          gn_X12_lawful_1  v1 v2 v3 (t_order (v2).toNatClampNeg) t_thrown t_order t_didKept t_s (upd t_tried (v2).toNatClampNeg ((t_tried (v2).toNatClampNeg) + 1)) t_lawfulMany t_boundAs t_boundFrom t_lawfulBy
          else none
          else none
        else
          Option.bind (dn_X12_of (upd t_s (3 : Int32).toNatClampNeg ((t_s (3 : Int32).toNatClampNeg) - 1)) (t_order (v2).toNatClampNeg) 3) fun q12 =>
          Option.bind (dn_X12_of (upd t_s (3 : Int32).toNatClampNeg ((t_s (3 : Int32).toNatClampNeg) - 1)) (t_order (v2).toNatClampNeg) 4) fun q13 =>
          if inb v2 12 = true then
          if inb v2 12 = true then
          gn_X12_lawful_1  v1 v2 (v3 - (q12 + q13)) (t_order (v2).toNatClampNeg) t_thrown t_order t_didKept (upd t_s (3 : Int32).toNatClampNeg ((t_s (3 : Int32).toNatClampNeg) - 1)) (upd t_tried (v2).toNatClampNeg ((t_tried (v2).toNatClampNeg) + 1)) t_lawfulMany t_boundAs t_boundFrom t_lawfulBy
          else none
          else none
        else none
        else none := by
  rw [gn_X12_lawful_0, lpC_eq]
  show lpO _ (bd_X12_lawful_0  v1 v2 v3 t_thrown t_order t_didKept t_s t_tried t_lawfulMany t_boundAs t_boundFrom t_lawfulBy) = _
  unfold bd_X12_lawful_0
  simp only [lpO_ite, lpO_bind, lpO_none, lpO_l, lpO_r]
  try rfl
theorem gq_X12_lawful_1  (v1 : Int32) (v2 : Int32) (v3 : Int32) (v4 : Int32) (t_thrown : Int32) (t_order : Nat → Int32) (t_didKept : Nat → Int32) (t_s : Nat → Int32) (t_tried : Nat → Int32) (t_lawfulMany : Int32) (t_boundAs : Nat → Int32) (t_boundFrom : Nat → Int32) (t_lawfulBy : Nat → Int32) : gn_X12_lawful_1  v1 v2 v3 v4 t_thrown t_order t_didKept t_s t_tried t_lawfulMany t_boundAs t_boundFrom t_lawfulBy =
    if inb v2 12 = true then
    if (t_tried (v2).toNatClampNeg) ≤ 0 then
      gn_X12_lawful_3  v1 v2 v3 v4 t_thrown t_order t_didKept t_s t_tried t_lawfulMany t_boundAs t_boundFrom t_lawfulBy
    else
      if inb v2 12 = true then
      if (3 : Int32) ≤ (t_tried (v2).toNatClampNeg) then
        gn_X12_lawful_3  v1 v2 v3 v4 t_thrown t_order t_didKept t_s t_tried t_lawfulMany t_boundAs t_boundFrom t_lawfulBy
      else
        if inb v2 12 = true then
        Option.bind (dn_X12_wrong t_boundAs t_boundFrom t_s v4 ((t_tried (v2).toNatClampNeg) - 1)) fun q22 =>
        if q22.1 ≤ 0 then
          gn_X12_lawful_3  v1 v2 v3 v4 t_thrown t_order t_didKept t_s t_tried t_lawfulMany q22.2.1 q22.2.2 t_lawfulBy
        else
          if inb v2 12 = true then
          if inb v2 12 = true then
          gn_X12_lawful_1  v1 v2 v3 v4 t_thrown t_order t_didKept t_s (upd t_tried (v2).toNatClampNeg ((t_tried (v2).toNatClampNeg) + 1)) t_lawfulMany q22.2.1 q22.2.2 t_lawfulBy
          else none
          else none
        else none
      else none
    else none := by
  rw [gn_X12_lawful_1, lpC_eq]
  show lpO _ (bd_X12_lawful_1  v1 v2 v3 v4 t_thrown t_order t_didKept t_s t_tried t_lawfulMany t_boundAs t_boundFrom t_lawfulBy) = _
  unfold bd_X12_lawful_1
  simp only [lpO_ite, lpO_bind, lpO_none, lpO_l, lpO_r]
  try rfl
theorem gq_X12_lawful_2  (v1 : Int32) (v2 : Int32) (v3 : Int32) (v4 : Int32) (t_thrown : Int32) (t_order : Nat → Int32) (t_didKept : Nat → Int32) (t_s : Nat → Int32) (t_tried : Nat → Int32) (t_lawfulMany : Int32) (t_boundAs : Nat → Int32) (t_boundFrom : Nat → Int32) (t_lawfulBy : Nat → Int32) : gn_X12_lawful_2  v1 v2 v3 v4 t_thrown t_order t_didKept t_s t_tried t_lawfulMany t_boundAs t_boundFrom t_lawfulBy =
    if v2 ≤ v4 then
      gn_X12_lawful_0  v1 (v2 + (-1)) v3 t_thrown t_order t_didKept t_s t_tried t_lawfulMany t_boundAs t_boundFrom t_lawfulBy
    else
      if inb v4 30 = true then
      if inb v4 12 = true then
      if inb (t_order (v4).toNatClampNeg) 12 = true then
      gn_X12_lawful_2  v1 v2 v3 (v4 + 1) t_thrown t_order t_didKept t_s t_tried t_lawfulMany t_boundAs t_boundFrom (upd t_lawfulBy (t_order (v4).toNatClampNeg).toNatClampNeg (t_tried (v4).toNatClampNeg))
      else none
      else none
      else none := by
  rw [gn_X12_lawful_2, lpC_eq]
  show lpO _ (bd_X12_lawful_2  v1 v2 v3 v4 t_thrown t_order t_didKept t_s t_tried t_lawfulMany t_boundAs t_boundFrom t_lawfulBy) = _
  unfold bd_X12_lawful_2
  simp only [lpO_ite, lpO_bind, lpO_none, lpO_l, lpO_r]
  try rfl
theorem gq_X12_lawful_3  (v1 : Int32) (v2 : Int32) (v3 : Int32) (v4 : Int32) (t_thrown : Int32) (t_order : Nat → Int32) (t_didKept : Nat → Int32) (t_s : Nat → Int32) (t_tried : Nat → Int32) (t_lawfulMany : Int32) (t_boundAs : Nat → Int32) (t_boundFrom : Nat → Int32) (t_lawfulBy : Nat → Int32) : gn_X12_lawful_3  v1 v2 v3 v4 t_thrown t_order t_didKept t_s t_tried t_lawfulMany t_boundAs t_boundFrom t_lawfulBy =
    if inb v2 12 = true then
    if (t_tried (v2).toNatClampNeg) = 3 then
      gn_X12_lawful_0  v1 (v2 + (-1)) v3 t_thrown t_order t_didKept t_s t_tried t_lawfulMany t_boundAs t_boundFrom t_lawfulBy
    else
      if inb v2 12 = true then
      if (t_tried (v2).toNatClampNeg) ≤ 0 then
        gn_X12_lawful_4  v1 v2 v3 t_thrown t_order t_didKept t_s t_tried t_lawfulMany t_boundAs t_boundFrom t_lawfulBy
      else
        if inb v2 12 = true then
        Option.bind (dn_X12_put t_s v4 ((t_tried (v2).toNatClampNeg) - 1)) fun q35 =>
        Option.bind (dn_X12_of q35 v4 3) fun q36 =>
        Option.bind (dn_X12_of q35 v4 4) fun q37 =>
        gn_X12_lawful_4  v1 v2 (v3 + (q36 + q37)) t_thrown t_order t_didKept q35 t_tried t_lawfulMany t_boundAs t_boundFrom t_lawfulBy
        else none
      else none
    else none := by
  rw [gn_X12_lawful_3, lpC_eq]
  show lpO _ (bd_X12_lawful_3  v1 v2 v3 v4 t_thrown t_order t_didKept t_s t_tried t_lawfulMany t_boundAs t_boundFrom t_lawfulBy) = _
  unfold bd_X12_lawful_3
  simp only [lpO_ite, lpO_bind, lpO_none, lpO_l, lpO_r]
  try rfl
theorem gq_X12_lawful_4  (v1 : Int32) (v2 : Int32) (v3 : Int32) (t_thrown : Int32) (t_order : Nat → Int32) (t_didKept : Nat → Int32) (t_s : Nat → Int32) (t_tried : Nat → Int32) (t_lawfulMany : Int32) (t_boundAs : Nat → Int32) (t_boundFrom : Nat → Int32) (t_lawfulBy : Nat → Int32) : gn_X12_lawful_4  v1 v2 v3 t_thrown t_order t_didKept t_s t_tried t_lawfulMany t_boundAs t_boundFrom t_lawfulBy =
    if (t_s (1 : Int32).toNatClampNeg) ≤ (v2 + 1) then
      gn_X12_lawful_0  v1 (v2 + 1) v3 t_thrown t_order t_didKept t_s t_tried t_lawfulMany t_boundAs t_boundFrom t_lawfulBy
    else
      if inb (v2 + 1) 12 = true then
      gn_X12_lawful_0  v1 (v2 + 1) v3 t_thrown t_order t_didKept t_s (upd t_tried (v2 + 1).toNatClampNeg (-1)) t_lawfulMany t_boundAs t_boundFrom t_lawfulBy
      else none := by
  rw [gn_X12_lawful_4, lpC_eq]
  show lpO _ (bd_X12_lawful_4  v1 v2 v3 t_thrown t_order t_didKept t_s t_tried t_lawfulMany t_boundAs t_boundFrom t_lawfulBy) = _
  unfold bd_X12_lawful_4
  simp only [lpO_ite, lpO_bind, lpO_none, lpO_l, lpO_r]
  try rfl
noncomputable def dn_X12_lawful (t_lawfulMany : Int32) (t_boundAs : Nat → Int32) (t_boundFrom : Nat → Int32) (t_didKept : Nat → Int32) (t_lawfulBy : Nat → Int32) (t_order : Nat → Int32) (t_s : Nat → Int32) (t_tried : Nat → Int32) : Option (Int32 × Int32 × (Nat → Int32) × (Nat → Int32) × (Nat → Int32) × (Nat → Int32) × Int32 × (Nat → Int32) × (Nat → Int32) × (Nat → Int32)) :=
  if (t_s (1 : Int32).toNatClampNeg) ≤ 12 then
    Option.bind (dn_X12_byYears t_order t_s) fun q2 =>
    Option.bind (dn_X12_keepDone t_didKept t_s) fun q3 =>
    gn_X12_lawful_0  (-1) 0 0 0 q2 q3 (upd t_s (3 : Int32).toNatClampNeg 0) (upd t_tried (0 : Int32).toNatClampNeg (-1)) t_lawfulMany t_boundAs t_boundFrom t_lawfulBy
  else
    some ((-1), 0, t_order, t_didKept, t_s, t_tried, t_lawfulMany, t_boundAs, t_boundFrom, t_lawfulBy)
noncomputable def dn_X12_lawfulBy (t_lawfulMany : Int32) (t_lawfulBy : Nat → Int32) (p1 : Int32) : Option (Int32 × Int32) :=
  Option.bind (dn_X12_isIn p1 0 (t_lawfulMany - 1)) fun q1 =>
  if q1 = true then
    if inb p1 12 = true then
    some (t_lawfulBy (p1).toNatClampNeg, 0)
    else none
  else
    some ((-1), 0)
noncomputable def bd_X12_isServed_0 (t_s : Nat → Int32) (p1 : Int32) (v2 : Int32) (v3 : Int32) (v4 : Int32) : Option (((Int32 × Int32 × Int32) ⊕ ((Int32 × Int32 × Int32))) ⊕ (Bool)) :=
  if (t_s (1 : Int32).toNatClampNeg) ≤ v4 then
    if (p1 &&& (v2 ^^^ (-1))) = 0 then
      if ((v2 &&& (p1 ^^^ (-1))) &&& (v3 ^^^ (-1))) = 0 then
        some (.inr true)
      else
        some (.inr false)
    else
      some (.inr false)
  else
    Option.bind (dn_X12_of t_s v4 0) fun q4 =>
    Option.bind (dn_X12_of t_s v4 1) fun q5 =>
    Option.bind (dn_X12_of t_s v4 0) fun q6 =>
    Option.bind (dn_X12_has p1 q6) fun q7 =>
    if q7 = true then
      Option.bind (dn_X12_of t_s v4 1) fun q9 =>
      some (.inl (.inr ((v2 ||| (((1 : Int32) <<< (q4 &&& 31)) ||| ((1 : Int32) <<< (q5 &&& 31))), v3 ||| ((1 : Int32) <<< (q9 &&& 31)), v4))))
    else
      some (.inl (.inr ((v2 ||| (((1 : Int32) <<< (q4 &&& 31)) ||| ((1 : Int32) <<< (q5 &&& 31))), v3, v4))))
noncomputable def bd_X12_isServed_1 (t_s : Nat → Int32) (p1 : Int32) (v2 : Int32) (v3 : Int32) (v4 : Int32) : Option (((Int32 × Int32 × Int32) ⊕ ((Int32 × Int32 × Int32))) ⊕ (Bool)) :=
  Option.bind (dn_X12_of t_s v4 5) fun q10 =>
  if q10 = 1 then
    Option.bind (dn_X12_of t_s v4 1) fun q12 =>
    Option.bind (dn_X12_has p1 q12) fun q13 =>
    if q13 = true then
      Option.bind (dn_X12_of t_s v4 0) fun q15 =>
      some (.inl (.inl (v2, v3 ||| ((1 : Int32) <<< (q15 &&& 31)), v4 + 1)))
    else
      some (.inl (.inl (v2, v3, v4 + 1)))
  else
    some (.inl (.inl (v2, v3, v4 + 1)))
noncomputable def st_X12_isServed (t_s : Nat → Int32) (p1 : Int32) : ((Int32 × Int32 × Int32) ⊕ ((Int32 × Int32 × Int32))) → Option (((Int32 × Int32 × Int32) ⊕ ((Int32 × Int32 × Int32))) ⊕ (Bool)) := fun s => match s with
  | .inl (v2, v3, v4) => bd_X12_isServed_0 t_s p1 v2 v3 v4
  | .inr ((v2, v3, v4)) => bd_X12_isServed_1 t_s p1 v2 v3 v4
noncomputable def gn_X12_isServed_0 (t_s : Nat → Int32) (p1 : Int32) (v2 : Int32) (v3 : Int32) (v4 : Int32) : Option (Bool) := lpC (st_X12_isServed t_s p1) (.inl (v2, v3, v4))
noncomputable def gn_X12_isServed_1 (t_s : Nat → Int32) (p1 : Int32) (v2 : Int32) (v3 : Int32) (v4 : Int32) : Option (Bool) := lpC (st_X12_isServed t_s p1) (.inr ((v2, v3, v4)))
theorem gq_X12_isServed_0 (t_s : Nat → Int32) (p1 : Int32) (v2 : Int32) (v3 : Int32) (v4 : Int32) : gn_X12_isServed_0 t_s p1 v2 v3 v4 =
    if (t_s (1 : Int32).toNatClampNeg) ≤ v4 then
      if (p1 &&& (v2 ^^^ (-1))) = 0 then
        if ((v2 &&& (p1 ^^^ (-1))) &&& (v3 ^^^ (-1))) = 0 then
          some true
        else
          some false
      else
        some false
    else
      Option.bind (dn_X12_of t_s v4 0) fun q4 =>
      Option.bind (dn_X12_of t_s v4 1) fun q5 =>
      Option.bind (dn_X12_of t_s v4 0) fun q6 =>
      Option.bind (dn_X12_has p1 q6) fun q7 =>
      if q7 = true then
        Option.bind (dn_X12_of t_s v4 1) fun q9 =>
        gn_X12_isServed_1 t_s p1 (v2 ||| (((1 : Int32) <<< (q4 &&& 31)) ||| ((1 : Int32) <<< (q5 &&& 31)))) (v3 ||| ((1 : Int32) <<< (q9 &&& 31))) v4
      else
        gn_X12_isServed_1 t_s p1 (v2 ||| (((1 : Int32) <<< (q4 &&& 31)) ||| ((1 : Int32) <<< (q5 &&& 31)))) v3 v4 := by
  rw [gn_X12_isServed_0, lpC_eq]
  show lpO _ (bd_X12_isServed_0 t_s p1 v2 v3 v4) = _
  unfold bd_X12_isServed_0
  simp only [lpO_ite, lpO_bind, lpO_none, lpO_l, lpO_r]
  try rfl
theorem gq_X12_isServed_1 (t_s : Nat → Int32) (p1 : Int32) (v2 : Int32) (v3 : Int32) (v4 : Int32) : gn_X12_isServed_1 t_s p1 v2 v3 v4 =
    Option.bind (dn_X12_of t_s v4 5) fun q10 =>
    if q10 = 1 then
      Option.bind (dn_X12_of t_s v4 1) fun q12 =>
      Option.bind (dn_X12_has p1 q12) fun q13 =>
      if q13 = true then
        Option.bind (dn_X12_of t_s v4 0) fun q15 =>
        gn_X12_isServed_0 t_s p1 v2 (v3 ||| ((1 : Int32) <<< (q15 &&& 31))) (v4 + 1)
      else
        gn_X12_isServed_0 t_s p1 v2 v3 (v4 + 1)
    else
      gn_X12_isServed_0 t_s p1 v2 v3 (v4 + 1) := by
  rw [gn_X12_isServed_1, lpC_eq]
  show lpO _ (bd_X12_isServed_1 t_s p1 v2 v3 v4) = _
  unfold bd_X12_isServed_1
  simp only [lpO_ite, lpO_bind, lpO_none, lpO_l, lpO_r]
  try rfl
noncomputable def dn_X12_isServed (t_s : Nat → Int32) (p1 : Int32) : Option (Bool) :=
  gn_X12_isServed_0 t_s p1 0 0 0
noncomputable def bd_X12_fewest_0 (t_s : Nat → Int32) (v1 : Int32) (v2 : Int32) (t_thrown : Int32) : Option (((Int32 × Int32 × Int32) ⊕ ((Int32 × Int32 × Int32))) ⊕ (Int32 × Int32)) :=
  if ((1 : Int32) <<< ((t_s (0 : Int32).toNatClampNeg) &&& 31)) ≤ v2 then
    some (.inr (v1, t_thrown))
  else
    if v1 < 0 then
      some (.inl (.inr ((v1, v2, t_thrown))))
    else
      Option.bind (dn_X12_bits v2) fun q3 =>
      Option.bind (dn_X12_bits v1) fun q4 =>
      if q4 ≤ q3 then
        some (.inl (.inl (v1, v2 + 1, t_thrown)))
      else
        some (.inl (.inr ((v1, v2, t_thrown))))
noncomputable def bd_X12_fewest_1 (t_s : Nat → Int32) (v1 : Int32) (v2 : Int32) (t_thrown : Int32) : Option (((Int32 × Int32 × Int32) ⊕ ((Int32 × Int32 × Int32))) ⊕ (Int32 × Int32)) :=
  Option.bind (dn_X12_isServed t_s v2) fun q6 =>
  if q6 = true then
    some (.inl (.inl (v2, v2 + 1, t_thrown)))
  else
    some (.inl (.inl (v1, v2 + 1, t_thrown)))
noncomputable def st_X12_fewest (t_s : Nat → Int32) : ((Int32 × Int32 × Int32) ⊕ ((Int32 × Int32 × Int32))) → Option (((Int32 × Int32 × Int32) ⊕ ((Int32 × Int32 × Int32))) ⊕ (Int32 × Int32)) := fun s => match s with
  | .inl (v1, v2, t_thrown) => bd_X12_fewest_0 t_s v1 v2 t_thrown
  | .inr ((v1, v2, t_thrown)) => bd_X12_fewest_1 t_s v1 v2 t_thrown
noncomputable def gn_X12_fewest_0 (t_s : Nat → Int32) (v1 : Int32) (v2 : Int32) (t_thrown : Int32) : Option (Int32 × Int32) := lpC (st_X12_fewest t_s) (.inl (v1, v2, t_thrown))
noncomputable def gn_X12_fewest_1 (t_s : Nat → Int32) (v1 : Int32) (v2 : Int32) (t_thrown : Int32) : Option (Int32 × Int32) := lpC (st_X12_fewest t_s) (.inr ((v1, v2, t_thrown)))
theorem gq_X12_fewest_0 (t_s : Nat → Int32) (v1 : Int32) (v2 : Int32) (t_thrown : Int32) : gn_X12_fewest_0 t_s v1 v2 t_thrown =
    if ((1 : Int32) <<< ((t_s (0 : Int32).toNatClampNeg) &&& 31)) ≤ v2 then
      some (v1, t_thrown)
    else
      if v1 < 0 then
        gn_X12_fewest_1 t_s v1 v2 t_thrown
      else
        Option.bind (dn_X12_bits v2) fun q3 =>
        Option.bind (dn_X12_bits v1) fun q4 =>
        if q4 ≤ q3 then
          gn_X12_fewest_0 t_s v1 (v2 + 1) t_thrown
        else
          gn_X12_fewest_1 t_s v1 v2 t_thrown := by
  rw [gn_X12_fewest_0, lpC_eq]
  show lpO _ (bd_X12_fewest_0 t_s v1 v2 t_thrown) = _
  unfold bd_X12_fewest_0
  simp only [lpO_ite, lpO_bind, lpO_none, lpO_l, lpO_r]
  try rfl
theorem gq_X12_fewest_1 (t_s : Nat → Int32) (v1 : Int32) (v2 : Int32) (t_thrown : Int32) : gn_X12_fewest_1 t_s v1 v2 t_thrown =
    Option.bind (dn_X12_isServed t_s v2) fun q6 =>
    if q6 = true then
      gn_X12_fewest_0 t_s v2 (v2 + 1) t_thrown
    else
      gn_X12_fewest_0 t_s v1 (v2 + 1) t_thrown := by
  rw [gn_X12_fewest_1, lpC_eq]
  show lpO _ (bd_X12_fewest_1 t_s v1 v2 t_thrown) = _
  unfold bd_X12_fewest_1
  simp only [lpO_ite, lpO_bind, lpO_none, lpO_l, lpO_r]
  try rfl
noncomputable def dn_X12_fewest (t_s : Nat → Int32) : Option (Int32 × Int32) :=
  gn_X12_fewest_0 t_s (-1) 0 0
noncomputable def bd_X12_takesPairs_0 (t_s : Nat → Int32) (t_tape : Nat → Int32) (v1 : Int32) (t_size : Int32) (t_length : Int32) (t_p : Int32) (t_limit : Int32) (t_pairs : Int32) (t_met : Int32) : Option (((Int32 × Int32 × Int32 × Int32 × Int32 × Int32 × Int32)) ⊕ (Bool × Int32 × Int32 × Int32 × Int32 × Int32 × Int32)) :=
  if t_pairs ≤ v1 then
    some (.inr (true, t_size, t_length, t_p, t_limit, t_pairs, t_met))
  else
    Option.bind (dn_X12_octet t_tape ((2 : Int32) * v1)) fun q5 =>
    Option.bind (dn_X12_isPerson t_s q5) fun q6 =>
    if q6 = true then
      Option.bind (dn_X12_octet t_tape (((2 : Int32) * v1) + 1)) fun q8 =>
      Option.bind (dn_X12_isPerson t_s q8) fun q9 =>
      if q9 = true then
        Option.bind (dn_X12_octet t_tape ((2 : Int32) * v1)) fun q11 =>
        Option.bind (dn_X12_octet t_tape (((2 : Int32) * v1) + 1)) fun q12 =>
        if q11 = q12 then
          some (.inr (false, t_size, t_length, t_p, t_limit, t_pairs, t_met))
        else
          Option.bind (dn_X12_octet t_tape ((2 : Int32) * v1)) fun q14 =>
          Option.bind (dn_X12_octet t_tape (((2 : Int32) * v1) + 1)) fun q15 =>
          some (.inl (v1 + 1, t_size, t_length, t_p, t_limit, t_pairs, t_met ||| (((1 : Int32) <<< (q14 &&& 31)) ||| ((1 : Int32) <<< (q15 &&& 31)))))
      else
        some (.inr (false, t_size, t_length, t_p, t_limit, t_pairs, t_met))
    else
      some (.inr (false, t_size, t_length, t_p, t_limit, t_pairs, t_met))
noncomputable def st_X12_takesPairs (t_s : Nat → Int32) (t_tape : Nat → Int32) : ((Int32 × Int32 × Int32 × Int32 × Int32 × Int32 × Int32)) → Option (((Int32 × Int32 × Int32 × Int32 × Int32 × Int32 × Int32)) ⊕ (Bool × Int32 × Int32 × Int32 × Int32 × Int32 × Int32)) := fun s => match s with
  | (v1, t_size, t_length, t_p, t_limit, t_pairs, t_met) => bd_X12_takesPairs_0 t_s t_tape v1 t_size t_length t_p t_limit t_pairs t_met
noncomputable def gn_X12_takesPairs_0 (t_s : Nat → Int32) (t_tape : Nat → Int32) (v1 : Int32) (t_size : Int32) (t_length : Int32) (t_p : Int32) (t_limit : Int32) (t_pairs : Int32) (t_met : Int32) : Option (Bool × Int32 × Int32 × Int32 × Int32 × Int32 × Int32) := lpC (st_X12_takesPairs t_s t_tape) ((v1, t_size, t_length, t_p, t_limit, t_pairs, t_met))
theorem gq_X12_takesPairs_0 (t_s : Nat → Int32) (t_tape : Nat → Int32) (v1 : Int32) (t_size : Int32) (t_length : Int32) (t_p : Int32) (t_limit : Int32) (t_pairs : Int32) (t_met : Int32) : gn_X12_takesPairs_0 t_s t_tape v1 t_size t_length t_p t_limit t_pairs t_met =
    if t_pairs ≤ v1 then
      some (true, t_size, t_length, t_p, t_limit, t_pairs, t_met)
    else
      Option.bind (dn_X12_octet t_tape ((2 : Int32) * v1)) fun q5 =>
      Option.bind (dn_X12_isPerson t_s q5) fun q6 =>
      if q6 = true then
        Option.bind (dn_X12_octet t_tape (((2 : Int32) * v1) + 1)) fun q8 =>
        Option.bind (dn_X12_isPerson t_s q8) fun q9 =>
        if q9 = true then
          Option.bind (dn_X12_octet t_tape ((2 : Int32) * v1)) fun q11 =>
          Option.bind (dn_X12_octet t_tape (((2 : Int32) * v1) + 1)) fun q12 =>
          if q11 = q12 then
            some (false, t_size, t_length, t_p, t_limit, t_pairs, t_met)
          else
            Option.bind (dn_X12_octet t_tape ((2 : Int32) * v1)) fun q14 =>
            Option.bind (dn_X12_octet t_tape (((2 : Int32) * v1) + 1)) fun q15 =>
            gn_X12_takesPairs_0 t_s t_tape (v1 + 1) t_size t_length t_p t_limit t_pairs (t_met ||| (((1 : Int32) <<< (q14 &&& 31)) ||| ((1 : Int32) <<< (q15 &&& 31))))
        else
          some (false, t_size, t_length, t_p, t_limit, t_pairs, t_met)
      else
        some (false, t_size, t_length, t_p, t_limit, t_pairs, t_met) := by
  rw [gn_X12_takesPairs_0, lpC_eq]
  show lpO _ (bd_X12_takesPairs_0 t_s t_tape v1 t_size t_length t_p t_limit t_pairs t_met) = _
  unfold bd_X12_takesPairs_0
  simp only [lpO_ite, lpO_bind, lpO_none, lpO_l, lpO_r]
  try rfl
noncomputable def dn_X12_takesPairs (t_length : Int32) (t_pairs : Int32) (t_met : Int32) (t_s : Nat → Int32) (t_tape : Nat → Int32) : Option (Bool × Int32 × Int32 × Int32 × Int32 × Int32 × Int32) :=
  Option.bind (dn_X12_taken t_length 940) fun q1 =>
  if (q1.1 - q1.1 / 2 * 2) = 1 then
    some (false, q1.1, q1.2.1, q1.2.2.1, q1.2.2.2, t_pairs, t_met)
  else
    if q1.1 ≤ 40 then
      gn_X12_takesPairs_0 t_s t_tape 0 q1.1 q1.2.1 q1.2.2.1 q1.2.2.2 (q1.1 / 2) 0
    else
      some (false, q1.1, q1.2.1, q1.2.2.1, q1.2.2.2, t_pairs, t_met)
noncomputable def bd_X12_clashes_0 (t_pairs : Int32) (t_tape : Nat → Int32) (p1 : Int32) (v2 : Int32) (v3 : Int32) : Option (((Int32 × Int32)) ⊕ (Int32)) :=
  if t_pairs ≤ v3 then
    some (.inr v2)
  else
    Option.bind (dn_X12_octet t_tape ((2 : Int32) * v3)) fun q2 =>
    Option.bind (dn_X12_has p1 q2) fun q3 =>
    Option.bind (dn_X12_octet t_tape (((2 : Int32) * v3) + 1)) fun q4 =>
    Option.bind (dn_X12_has p1 q4) fun q5 =>
    if (b2i q3) = (b2i q5) then
      some (.inl (v2 ||| ((1 : Int32) <<< (v3 &&& 31)), v3 + 1))
    else
      some (.inl (v2 ||| 0, v3 + 1))
noncomputable def st_X12_clashes (t_pairs : Int32) (t_tape : Nat → Int32) (p1 : Int32) : ((Int32 × Int32)) → Option (((Int32 × Int32)) ⊕ (Int32)) := fun s => match s with
  | (v2, v3) => bd_X12_clashes_0 t_pairs t_tape p1 v2 v3
noncomputable def gn_X12_clashes_0 (t_pairs : Int32) (t_tape : Nat → Int32) (p1 : Int32) (v2 : Int32) (v3 : Int32) : Option (Int32) := lpC (st_X12_clashes t_pairs t_tape p1) ((v2, v3))
theorem gq_X12_clashes_0 (t_pairs : Int32) (t_tape : Nat → Int32) (p1 : Int32) (v2 : Int32) (v3 : Int32) : gn_X12_clashes_0 t_pairs t_tape p1 v2 v3 =
    if t_pairs ≤ v3 then
      some v2
    else
      Option.bind (dn_X12_octet t_tape ((2 : Int32) * v3)) fun q2 =>
      Option.bind (dn_X12_has p1 q2) fun q3 =>
      Option.bind (dn_X12_octet t_tape (((2 : Int32) * v3) + 1)) fun q4 =>
      Option.bind (dn_X12_has p1 q4) fun q5 =>
      if (b2i q3) = (b2i q5) then
        gn_X12_clashes_0 t_pairs t_tape p1 (v2 ||| ((1 : Int32) <<< (v3 &&& 31))) (v3 + 1)
      else
        gn_X12_clashes_0 t_pairs t_tape p1 (v2 ||| 0) (v3 + 1) := by
  rw [gn_X12_clashes_0, lpC_eq]
  show lpO _ (bd_X12_clashes_0 t_pairs t_tape p1 v2 v3) = _
  unfold bd_X12_clashes_0
  simp only [lpO_ite, lpO_bind, lpO_none, lpO_l, lpO_r]
  try rfl
noncomputable def dn_X12_clashes (t_pairs : Int32) (t_tape : Nat → Int32) (p1 : Int32) : Option (Int32) :=
  gn_X12_clashes_0 t_pairs t_tape p1 0 0
noncomputable def bd_X12_meet_0 (t_tape : Nat → Int32) (v1 : Int32) (v2 : Int32) (t_thrown : Int32) (t_size : Int32) (t_length : Int32) (t_p : Int32) (t_limit : Int32) (t_pairs : Int32) (t_met : Int32) : Option (((Int32 × Int32 × Int32 × Int32 × Int32 × Int32 × Int32 × Int32 × Int32)) ⊕ (Int32 × Int32 × Int32 × Int32 × Int32 × Int32 × Int32 × Int32)) :=
  if t_met < v2 then
    some (.inr (v1, t_thrown, t_size, t_length, t_p, t_limit, t_pairs, t_met))
  else
    if (v2 &&& (t_met ^^^ (-1))) = 0 then
      Option.bind (dn_X12_clashes t_pairs t_tape v2) fun q5 =>
      if q5 = 0 then
        some (.inl (v1 + 1, v2 + 1, t_thrown, t_size, t_length, t_p, t_limit, t_pairs, t_met))
      else
        some (.inl (v1 + 0, v2 + 1, t_thrown, t_size, t_length, t_p, t_limit, t_pairs, t_met))
    else
      some (.inl (v1 + 0, v2 + 1, t_thrown, t_size, t_length, t_p, t_limit, t_pairs, t_met))
noncomputable def st_X12_meet (t_tape : Nat → Int32) : ((Int32 × Int32 × Int32 × Int32 × Int32 × Int32 × Int32 × Int32 × Int32)) → Option (((Int32 × Int32 × Int32 × Int32 × Int32 × Int32 × Int32 × Int32 × Int32)) ⊕ (Int32 × Int32 × Int32 × Int32 × Int32 × Int32 × Int32 × Int32)) := fun s => match s with
  | (v1, v2, t_thrown, t_size, t_length, t_p, t_limit, t_pairs, t_met) => bd_X12_meet_0 t_tape v1 v2 t_thrown t_size t_length t_p t_limit t_pairs t_met
noncomputable def gn_X12_meet_0 (t_tape : Nat → Int32) (v1 : Int32) (v2 : Int32) (t_thrown : Int32) (t_size : Int32) (t_length : Int32) (t_p : Int32) (t_limit : Int32) (t_pairs : Int32) (t_met : Int32) : Option (Int32 × Int32 × Int32 × Int32 × Int32 × Int32 × Int32 × Int32) := lpC (st_X12_meet t_tape) ((v1, v2, t_thrown, t_size, t_length, t_p, t_limit, t_pairs, t_met))
theorem gq_X12_meet_0 (t_tape : Nat → Int32) (v1 : Int32) (v2 : Int32) (t_thrown : Int32) (t_size : Int32) (t_length : Int32) (t_p : Int32) (t_limit : Int32) (t_pairs : Int32) (t_met : Int32) : gn_X12_meet_0 t_tape v1 v2 t_thrown t_size t_length t_p t_limit t_pairs t_met =
    if t_met < v2 then
      some (v1, t_thrown, t_size, t_length, t_p, t_limit, t_pairs, t_met)
    else
      if (v2 &&& (t_met ^^^ (-1))) = 0 then
        Option.bind (dn_X12_clashes t_pairs t_tape v2) fun q5 =>
        if q5 = 0 then
          gn_X12_meet_0 t_tape (v1 + 1) (v2 + 1) t_thrown t_size t_length t_p t_limit t_pairs t_met
        else
          gn_X12_meet_0 t_tape (v1 + 0) (v2 + 1) t_thrown t_size t_length t_p t_limit t_pairs t_met
      else
        gn_X12_meet_0 t_tape (v1 + 0) (v2 + 1) t_thrown t_size t_length t_p t_limit t_pairs t_met := by
  rw [gn_X12_meet_0, lpC_eq]
  show lpO _ (bd_X12_meet_0 t_tape v1 v2 t_thrown t_size t_length t_p t_limit t_pairs t_met) = _
  unfold bd_X12_meet_0
  simp only [lpO_ite, lpO_bind, lpO_none, lpO_l, lpO_r]
  try rfl
noncomputable def dn_X12_meet (t_length : Int32) (t_pairs : Int32) (t_met : Int32) (t_s : Nat → Int32) (t_tape : Nat → Int32) : Option (Int32 × Int32 × Int32 × Int32 × Int32 × Int32 × Int32 × Int32) :=
  Option.bind (dn_X12_takesPairs t_length t_pairs t_met t_s t_tape) fun q1 =>
  if q1.1 = true then
    gn_X12_meet_0 t_tape 0 0 0 q1.2.1 q1.2.2.1 q1.2.2.2.1 q1.2.2.2.2.1 q1.2.2.2.2.2.1 q1.2.2.2.2.2.2
  else
    some ((-1), 0, q1.2.1, q1.2.2.1, q1.2.2.2.1, q1.2.2.2.2.1, q1.2.2.2.2.2.1, q1.2.2.2.2.2.2)
noncomputable def bd_X12_must_0 (t_tape : Nat → Int32) (p1 : Int32) (v2 : Int32) (v3 : Int32) (v4 : Int32) (v5 : Int32) (v6 : Int32) (t_thrown : Int32) (t_size : Int32) (t_length : Int32) (t_p : Int32) (t_limit : Int32) (t_pairs : Int32) (t_met : Int32) : Option (((Int32 × Int32 × Int32 × Int32 × Int32 × Int32 × Int32 × Int32 × Int32 × Int32 × Int32 × Int32)) ⊕ (Int32 × Int32 × Int32 × Int32 × Int32 × Int32 × Int32 × Int32)) :=
  if t_met < v6 then
    if v5 = 0 then
      some (.inr ((-1), t_thrown, t_size, t_length, t_p, t_limit, t_pairs, t_met))
    else
      if p1 = 0 then
        some (.inr (v3, t_thrown, t_size, t_length, t_p, t_limit, t_pairs, t_met))
      else
        some (.inr (v4, t_thrown, t_size, t_length, t_p, t_limit, t_pairs, t_met))
  else
    if (v6 &&& (t_met ^^^ (-1))) = 0 then
      if (v6 &&& v2) = 0 then
        some (.inl (v2, v3, v4, v5, v6 + 1, t_thrown, t_size, t_length, t_p, t_limit, t_pairs, t_met))
      else
        Option.bind (dn_X12_clashes t_pairs t_tape v6) fun q11 =>
        if q11 = 0 then
          some (.inl (v2, v3 &&& v6, v4 &&& (v6 ^^^ (-1)), 1, v6 + 1, t_thrown, t_size, t_length, t_p, t_limit, t_pairs, t_met))
        else
          some (.inl (v2, v3, v4, v5, v6 + 1, t_thrown, t_size, t_length, t_p, t_limit, t_pairs, t_met))
    else
      some (.inl (v2, v3, v4, v5, v6 + 1, t_thrown, t_size, t_length, t_p, t_limit, t_pairs, t_met))
noncomputable def st_X12_must (t_tape : Nat → Int32) (p1 : Int32) : ((Int32 × Int32 × Int32 × Int32 × Int32 × Int32 × Int32 × Int32 × Int32 × Int32 × Int32 × Int32)) → Option (((Int32 × Int32 × Int32 × Int32 × Int32 × Int32 × Int32 × Int32 × Int32 × Int32 × Int32 × Int32)) ⊕ (Int32 × Int32 × Int32 × Int32 × Int32 × Int32 × Int32 × Int32)) := fun s => match s with
  | (v2, v3, v4, v5, v6, t_thrown, t_size, t_length, t_p, t_limit, t_pairs, t_met) => bd_X12_must_0 t_tape p1 v2 v3 v4 v5 v6 t_thrown t_size t_length t_p t_limit t_pairs t_met
noncomputable def gn_X12_must_0 (t_tape : Nat → Int32) (p1 : Int32) (v2 : Int32) (v3 : Int32) (v4 : Int32) (v5 : Int32) (v6 : Int32) (t_thrown : Int32) (t_size : Int32) (t_length : Int32) (t_p : Int32) (t_limit : Int32) (t_pairs : Int32) (t_met : Int32) : Option (Int32 × Int32 × Int32 × Int32 × Int32 × Int32 × Int32 × Int32) := lpC (st_X12_must t_tape p1) ((v2, v3, v4, v5, v6, t_thrown, t_size, t_length, t_p, t_limit, t_pairs, t_met))
theorem gq_X12_must_0 (t_tape : Nat → Int32) (p1 : Int32) (v2 : Int32) (v3 : Int32) (v4 : Int32) (v5 : Int32) (v6 : Int32) (t_thrown : Int32) (t_size : Int32) (t_length : Int32) (t_p : Int32) (t_limit : Int32) (t_pairs : Int32) (t_met : Int32) : gn_X12_must_0 t_tape p1 v2 v3 v4 v5 v6 t_thrown t_size t_length t_p t_limit t_pairs t_met =
    if t_met < v6 then
      if v5 = 0 then
        some ((-1), t_thrown, t_size, t_length, t_p, t_limit, t_pairs, t_met)
      else
        if p1 = 0 then
          some (v3, t_thrown, t_size, t_length, t_p, t_limit, t_pairs, t_met)
        else
          some (v4, t_thrown, t_size, t_length, t_p, t_limit, t_pairs, t_met)
    else
      if (v6 &&& (t_met ^^^ (-1))) = 0 then
        if (v6 &&& v2) = 0 then
          gn_X12_must_0 t_tape p1 v2 v3 v4 v5 (v6 + 1) t_thrown t_size t_length t_p t_limit t_pairs t_met
        else
          Option.bind (dn_X12_clashes t_pairs t_tape v6) fun q11 =>
          if q11 = 0 then
            gn_X12_must_0 t_tape p1 v2 (v3 &&& v6) (v4 &&& (v6 ^^^ (-1))) 1 (v6 + 1) t_thrown t_size t_length t_p t_limit t_pairs t_met
          else
            gn_X12_must_0 t_tape p1 v2 v3 v4 v5 (v6 + 1) t_thrown t_size t_length t_p t_limit t_pairs t_met
      else
        gn_X12_must_0 t_tape p1 v2 v3 v4 v5 (v6 + 1) t_thrown t_size t_length t_p t_limit t_pairs t_met := by
  rw [gn_X12_must_0, lpC_eq]
  show lpO _ (bd_X12_must_0 t_tape p1 v2 v3 v4 v5 v6 t_thrown t_size t_length t_p t_limit t_pairs t_met) = _
  unfold bd_X12_must_0
  simp only [lpO_ite, lpO_bind, lpO_none, lpO_l, lpO_r]
  try rfl
noncomputable def dn_X12_must (t_length : Int32) (t_pairs : Int32) (t_met : Int32) (t_s : Nat → Int32) (t_tape : Nat → Int32) (p1 : Int32) : Option (Int32 × Int32 × Int32 × Int32 × Int32 × Int32 × Int32 × Int32) :=
  Option.bind (dn_X12_takesPairs t_length t_pairs t_met t_s t_tape) fun q1 =>
  if q1.1 = true then
    if q1.2.2.2.2.2.2 = 0 then
      some ((-1), 0, q1.2.1, q1.2.2.1, q1.2.2.2.1, q1.2.2.2.2.1, q1.2.2.2.2.2.1, q1.2.2.2.2.2.2)
    else
      Option.bind (dn_X12_isIn p1 0 1) fun q4 =>
      if q4 = true then
        gn_X12_must_0 t_tape p1 (q1.2.2.2.2.2.2 &&& (-q1.2.2.2.2.2.2)) q1.2.2.2.2.2.2 q1.2.2.2.2.2.2 0 0 0 q1.2.1 q1.2.2.1 q1.2.2.2.1 q1.2.2.2.2.1 q1.2.2.2.2.2.1 q1.2.2.2.2.2.2
      else
        some ((-1), 0, q1.2.1, q1.2.2.1, q1.2.2.2.1, q1.2.2.2.2.1, q1.2.2.2.2.2.1, q1.2.2.2.2.2.2)
  else
    some ((-1), 0, q1.2.1, q1.2.2.1, q1.2.2.2.1, q1.2.2.2.2.1, q1.2.2.2.2.2.1, q1.2.2.2.2.2.2)
noncomputable def bd_X12_wrongly_0 (t_tape : Nat → Int32) (v1 : Int32) (v2 : Int32) (t_thrown : Int32) (t_size : Int32) (t_length : Int32) (t_p : Int32) (t_limit : Int32) (t_pairs : Int32) (t_met : Int32) : Option (((Int32 × Int32 × Int32 × Int32 × Int32 × Int32 × Int32 × Int32 × Int32)) ⊕ (Int32 × Int32 × Int32 × Int32 × Int32 × Int32 × Int32 × Int32)) :=
  if t_met < v2 then
    some (.inr (v1, t_thrown, t_size, t_length, t_p, t_limit, t_pairs, t_met))
  else
    Option.bind (dn_X12_clashes t_pairs t_tape v2) fun q5 =>
    if v1 < 0 then
      some (.inl (q5, v2 + 1, t_thrown, t_size, t_length, t_p, t_limit, t_pairs, t_met))
    else
      Option.bind (dn_X12_bits q5) fun q7 =>
      Option.bind (dn_X12_bits v1) fun q8 =>
      if q7 < q8 then
        some (.inl (q5, v2 + 1, t_thrown, t_size, t_length, t_p, t_limit, t_pairs, t_met))
      else
        Option.bind (dn_X12_bits q5) fun q10 =>
        Option.bind (dn_X12_bits v1) fun q11 =>
        if q10 = q11 then
          if v1 ≤ q5 then
            some (.inl (v1, v2 + 1, t_thrown, t_size, t_length, t_p, t_limit, t_pairs, t_met))
          else
            some (.inl (q5, v2 + 1, t_thrown, t_size, t_length, t_p, t_limit, t_pairs, t_met))
        else
          some (.inl (v1, v2 + 1, t_thrown, t_size, t_length, t_p, t_limit, t_pairs, t_met))
noncomputable def st_X12_wrongly (t_tape : Nat → Int32) : ((Int32 × Int32 × Int32 × Int32 × Int32 × Int32 × Int32 × Int32 × Int32)) → Option (((Int32 × Int32 × Int32 × Int32 × Int32 × Int32 × Int32 × Int32 × Int32)) ⊕ (Int32 × Int32 × Int32 × Int32 × Int32 × Int32 × Int32 × Int32)) := fun s => match s with
  | (v1, v2, t_thrown, t_size, t_length, t_p, t_limit, t_pairs, t_met) => bd_X12_wrongly_0 t_tape v1 v2 t_thrown t_size t_length t_p t_limit t_pairs t_met
noncomputable def gn_X12_wrongly_0 (t_tape : Nat → Int32) (v1 : Int32) (v2 : Int32) (t_thrown : Int32) (t_size : Int32) (t_length : Int32) (t_p : Int32) (t_limit : Int32) (t_pairs : Int32) (t_met : Int32) : Option (Int32 × Int32 × Int32 × Int32 × Int32 × Int32 × Int32 × Int32) := lpC (st_X12_wrongly t_tape) ((v1, v2, t_thrown, t_size, t_length, t_p, t_limit, t_pairs, t_met))
theorem gq_X12_wrongly_0 (t_tape : Nat → Int32) (v1 : Int32) (v2 : Int32) (t_thrown : Int32) (t_size : Int32) (t_length : Int32) (t_p : Int32) (t_limit : Int32) (t_pairs : Int32) (t_met : Int32) : gn_X12_wrongly_0 t_tape v1 v2 t_thrown t_size t_length t_p t_limit t_pairs t_met =
    if t_met < v2 then
      some (v1, t_thrown, t_size, t_length, t_p, t_limit, t_pairs, t_met)
    else
      Option.bind (dn_X12_clashes t_pairs t_tape v2) fun q5 =>
      if v1 < 0 then
        gn_X12_wrongly_0 t_tape q5 (v2 + 1) t_thrown t_size t_length t_p t_limit t_pairs t_met
      else
        Option.bind (dn_X12_bits q5) fun q7 =>
        Option.bind (dn_X12_bits v1) fun q8 =>
        if q7 < q8 then
          gn_X12_wrongly_0 t_tape q5 (v2 + 1) t_thrown t_size t_length t_p t_limit t_pairs t_met
        else
          Option.bind (dn_X12_bits q5) fun q10 =>
          Option.bind (dn_X12_bits v1) fun q11 =>
          if q10 = q11 then
            if v1 ≤ q5 then
              gn_X12_wrongly_0 t_tape v1 (v2 + 1) t_thrown t_size t_length t_p t_limit t_pairs t_met
            else
              gn_X12_wrongly_0 t_tape q5 (v2 + 1) t_thrown t_size t_length t_p t_limit t_pairs t_met
          else
            gn_X12_wrongly_0 t_tape v1 (v2 + 1) t_thrown t_size t_length t_p t_limit t_pairs t_met := by
  rw [gn_X12_wrongly_0, lpC_eq]
  show lpO _ (bd_X12_wrongly_0 t_tape v1 v2 t_thrown t_size t_length t_p t_limit t_pairs t_met) = _
  unfold bd_X12_wrongly_0
  simp only [lpO_ite, lpO_bind, lpO_none, lpO_l, lpO_r]
  try rfl
noncomputable def dn_X12_wrongly (t_length : Int32) (t_pairs : Int32) (t_met : Int32) (t_s : Nat → Int32) (t_tape : Nat → Int32) : Option (Int32 × Int32 × Int32 × Int32 × Int32 × Int32 × Int32 × Int32) :=
  Option.bind (dn_X12_takesPairs t_length t_pairs t_met t_s t_tape) fun q1 =>
  if q1.1 = true then
    if q1.2.2.2.2.2.1 ≤ 16 then
      gn_X12_wrongly_0 t_tape (-1) 0 0 q1.2.1 q1.2.2.1 q1.2.2.2.1 q1.2.2.2.2.1 q1.2.2.2.2.2.1 q1.2.2.2.2.2.2
    else
      some ((-1), 0, q1.2.1, q1.2.2.1, q1.2.2.2.1, q1.2.2.2.2.1, q1.2.2.2.2.2.1, q1.2.2.2.2.2.2)
  else
    some ((-1), 0, q1.2.1, q1.2.2.1, q1.2.2.2.1, q1.2.2.2.2.1, q1.2.2.2.2.2.1, q1.2.2.2.2.2.2)
noncomputable def bd_X12_between_0 (t_s : Nat → Int32) (p1 : Int32) (v2 : Int32) (v3 : Int32) (t_thrown : Int32) (t_boundAs : Nat → Int32) (t_boundFrom : Nat → Int32) : Option (((Int32 × Int32 × Int32 × (Nat → Int32) × (Nat → Int32)) ⊕ ((Int32 × Int32 × Int32 × Int32 × Int32 × Int32 × (Nat → Int32) × (Nat → Int32)) ⊕ ((Int32 × Int32 × Int32 × Int32 × Int32 × Int32 × (Nat → Int32) × (Nat → Int32)) ⊕ ((Int32 × Int32 × Int32 × Int32 × Int32 × Int32 × Int32 × (Nat → Int32) × (Nat → Int32)) ⊕ ((Int32 × Int32 × Int32 × Int32 × Int32 × Int32 × Int32 × Int32 × (Nat → Int32) × (Nat → Int32)) ⊕ ((Int32 × Int32 × Int32 × Int32 × Int32 × Int32 × Int32 × Int32 × Int32 × (Nat → Int32) × (Nat → Int32)) ⊕ ((Int32 × Int32 × Int32 × Int32 × Int32 × Int32 × Int32 × Int32 × (Nat → Int32) × (Nat → Int32))))))))) ⊕ (Int32 × Int32 × (Nat → Int32) × (Nat → Int32))) :=
  if (t_s (0 : Int32).toNatClampNeg) ≤ v3 then
    some (.inr (v2, t_thrown, t_boundAs, t_boundFrom))
  else
    if inb ((4 : Int32) + v3) 284 = true then
    if inb ((14 : Int32) + v3) 284 = true then
    Option.bind (dn_X12_isIn p1 (t_s (((4 : Int32) + v3)).toNatClampNeg) (t_s (((14 : Int32) + v3)).toNatClampNeg)) fun q7 =>
    if q7 = true then
      Option.bind (dn_X12_now t_boundAs t_boundFrom t_s v3 p1) fun q9 =>
      if q9 ≤ 0 then
        some (.inl (.inr (.inl (v2, v3, 0, 0, 0, t_thrown, t_boundAs, t_boundFrom))))
      else
        some (.inl (.inl (v2, v3 + 1, t_thrown, t_boundAs, t_boundFrom)))
    else
      some (.inl (.inl (v2, v3 + 1, t_thrown, t_boundAs, t_boundFrom)))
    else none
    else none
noncomputable def bd_X12_between_1 (t_s : Nat → Int32) (p1 : Int32) (v2 : Int32) (v3 : Int32) (v4 : Int32) (v5 : Int32) (v6 : Int32) (t_thrown : Int32) (t_boundAs : Nat → Int32) (t_boundFrom : Nat → Int32) : Option (((Int32 × Int32 × Int32 × (Nat → Int32) × (Nat → Int32)) ⊕ ((Int32 × Int32 × Int32 × Int32 × Int32 × Int32 × (Nat → Int32) × (Nat → Int32)) ⊕ ((Int32 × Int32 × Int32 × Int32 × Int32 × Int32 × (Nat → Int32) × (Nat → Int32)) ⊕ ((Int32 × Int32 × Int32 × Int32 × Int32 × Int32 × Int32 × (Nat → Int32) × (Nat → Int32)) ⊕ ((Int32 × Int32 × Int32 × Int32 × Int32 × Int32 × Int32 × Int32 × (Nat → Int32) × (Nat → Int32)) ⊕ ((Int32 × Int32 × Int32 × Int32 × Int32 × Int32 × Int32 × Int32 × Int32 × (Nat → Int32) × (Nat → Int32)) ⊕ ((Int32 × Int32 × Int32 × Int32 × Int32 × Int32 × Int32 × Int32 × (Nat → Int32) × (Nat → Int32))))))))) ⊕ (Int32 × Int32 × (Nat → Int32) × (Nat → Int32))) :=
  if (t_s (1 : Int32).toNatClampNeg) ≤ v6 then
    if v4 = 0 then
      some (.inl (.inl (v2, v3 + 1, t_thrown, t_boundAs, t_boundFrom)))
    else
      if v5 = 0 then
        some (.inl (.inl (v2, v3 + 1, t_thrown, t_boundAs, t_boundFrom)))
      else
        Option.bind (dn_X12_bits (v4 ||| v5)) fun q14 =>
        if q14 ≤ 1 then
          some (.inl (.inl (v2, v3 + 1, t_thrown, t_boundAs, t_boundFrom)))
        else
          some (.inl (.inl (v2 ||| ((1 : Int32) <<< (v3 &&& 31)), v3 + 1, t_thrown, t_boundAs, t_boundFrom)))
  else
    Option.bind (dn_X12_of t_s v6 2) fun q16 =>
    if q16 = p1 then
      Option.bind (dn_X12_doneAs t_s v6) fun q18 =>
      if 0 < q18 then
        some (.inl (.inr (.inl (v2, v3, v4, v5, v6 + 1, t_thrown, t_boundAs, t_boundFrom))))
      else
        Option.bind (dn_X12_of t_s v6 0) fun q20 =>
        if q20 = v3 then
          some (.inl (.inr (.inr (.inl (v2, v3, v4, v5, v6, t_thrown, t_boundAs, t_boundFrom)))))
        else
          Option.bind (dn_X12_of t_s v6 1) fun q22 =>
          if q22 = v3 then
            some (.inl (.inr (.inr (.inl (v2, v3, v4, v5, v6, t_thrown, t_boundAs, t_boundFrom)))))
          else
            some (.inl (.inr (.inl (v2, v3, v4, v5, v6 + 1, t_thrown, t_boundAs, t_boundFrom))))
    else
      some (.inl (.inr (.inl (v2, v3, v4, v5, v6 + 1, t_thrown, t_boundAs, t_boundFrom))))
noncomputable def bd_X12_between_2 (t_s : Nat → Int32) (p1 : Int32) (v2 : Int32) (v3 : Int32) (v4 : Int32) (v5 : Int32) (v6 : Int32) (t_thrown : Int32) (t_boundAs : Nat → Int32) (t_boundFrom : Nat → Int32) : Option (((Int32 × Int32 × Int32 × (Nat → Int32) × (Nat → Int32)) ⊕ ((Int32 × Int32 × Int32 × Int32 × Int32 × Int32 × (Nat → Int32) × (Nat → Int32)) ⊕ ((Int32 × Int32 × Int32 × Int32 × Int32 × Int32 × (Nat → Int32) × (Nat → Int32)) ⊕ ((Int32 × Int32 × Int32 × Int32 × Int32 × Int32 × Int32 × (Nat → Int32) × (Nat → Int32)) ⊕ ((Int32 × Int32 × Int32 × Int32 × Int32 × Int32 × Int32 × Int32 × (Nat → Int32) × (Nat → Int32)) ⊕ ((Int32 × Int32 × Int32 × Int32 × Int32 × Int32 × Int32 × Int32 × Int32 × (Nat → Int32) × (Nat → Int32)) ⊕ ((Int32 × Int32 × Int32 × Int32 × Int32 × Int32 × Int32 × Int32 × (Nat → Int32) × (Nat → Int32))))))))) ⊕ (Int32 × Int32 × (Nat → Int32) × (Nat → Int32))) :=
  Option.bind (dn_X12_of t_s v6 0) fun q24 =>
  if q24 = v3 then
    Option.bind (dn_X12_of t_s v6 1) fun q27 =>
    some (.inl (.inr (.inr (.inr (.inl (v2, v3, v4, v5, v6, q27, t_thrown, t_boundAs, t_boundFrom))))))
  else
    Option.bind (dn_X12_of t_s v6 0) fun q26 =>
    some (.inl (.inr (.inr (.inr (.inl (v2, v3, v4, v5, v6, q26, t_thrown, t_boundAs, t_boundFrom))))))
noncomputable def bd_X12_between_3 (t_s : Nat → Int32) (p1 : Int32) (v2 : Int32) (v3 : Int32) (v4 : Int32) (v5 : Int32) (v6 : Int32) (k0 : Int32) (t_thrown : Int32) (t_boundAs : Nat → Int32) (t_boundFrom : Nat → Int32) : Option (((Int32 × Int32 × Int32 × (Nat → Int32) × (Nat → Int32)) ⊕ ((Int32 × Int32 × Int32 × Int32 × Int32 × Int32 × (Nat → Int32) × (Nat → Int32)) ⊕ ((Int32 × Int32 × Int32 × Int32 × Int32 × Int32 × (Nat → Int32) × (Nat → Int32)) ⊕ ((Int32 × Int32 × Int32 × Int32 × Int32 × Int32 × Int32 × (Nat → Int32) × (Nat → Int32)) ⊕ ((Int32 × Int32 × Int32 × Int32 × Int32 × Int32 × Int32 × Int32 × (Nat → Int32) × (Nat → Int32)) ⊕ ((Int32 × Int32 × Int32 × Int32 × Int32 × Int32 × Int32 × Int32 × Int32 × (Nat → Int32) × (Nat → Int32)) ⊕ ((Int32 × Int32 × Int32 × Int32 × Int32 × Int32 × Int32 × Int32 × (Nat → Int32) × (Nat → Int32))))))))) ⊕ (Int32 × Int32 × (Nat → Int32) × (Nat → Int32))) :=
  Option.bind (dn_X12_of t_s v6 0) fun q28 =>
  if q28 = v3 then
    some (.inl (.inr (.inr (.inr (.inr (.inl (v2, v3, v4, v5, v6, k0, 1, t_thrown, t_boundAs, t_boundFrom)))))))
  else
    Option.bind (dn_X12_of t_s v6 5) fun q30 =>
    if q30 = 1 then
      some (.inl (.inr (.inr (.inr (.inr (.inl (v2, v3, v4, v5, v6, k0, 1, t_thrown, t_boundAs, t_boundFrom)))))))
    else
      some (.inl (.inr (.inr (.inr (.inr (.inl (v2, v3, v4, v5, v6, k0, 0, t_thrown, t_boundAs, t_boundFrom)))))))
noncomputable def bd_X12_between_4 (t_s : Nat → Int32) (p1 : Int32) (v2 : Int32) (v3 : Int32) (v4 : Int32) (v5 : Int32) (v6 : Int32) (v7 : Int32) (k0 : Int32) (t_thrown : Int32) (t_boundAs : Nat → Int32) (t_boundFrom : Nat → Int32) : Option (((Int32 × Int32 × Int32 × (Nat → Int32) × (Nat → Int32)) ⊕ ((Int32 × Int32 × Int32 × Int32 × Int32 × Int32 × (Nat → Int32) × (Nat → Int32)) ⊕ ((Int32 × Int32 × Int32 × Int32 × Int32 × Int32 × (Nat → Int32) × (Nat → Int32)) ⊕ ((Int32 × Int32 × Int32 × Int32 × Int32 × Int32 × Int32 × (Nat → Int32) × (Nat → Int32)) ⊕ ((Int32 × Int32 × Int32 × Int32 × Int32 × Int32 × Int32 × Int32 × (Nat → Int32) × (Nat → Int32)) ⊕ ((Int32 × Int32 × Int32 × Int32 × Int32 × Int32 × Int32 × Int32 × Int32 × (Nat → Int32) × (Nat → Int32)) ⊕ ((Int32 × Int32 × Int32 × Int32 × Int32 × Int32 × Int32 × Int32 × (Nat → Int32) × (Nat → Int32))))))))) ⊕ (Int32 × Int32 × (Nat → Int32) × (Nat → Int32))) :=
  Option.bind (dn_X12_of t_s v6 1) fun q32 =>
  if q32 = v3 then
    some (.inl (.inr (.inr (.inr (.inr (.inr (.inl (v2, v3, v4, v5, v6, v7, k0, 1, t_thrown, t_boundAs, t_boundFrom))))))))
  else
    Option.bind (dn_X12_of t_s v6 5) fun q34 =>
    if q34 = 1 then
      some (.inl (.inr (.inr (.inr (.inr (.inr (.inl (v2, v3, v4, v5, v6, v7, k0, 1, t_thrown, t_boundAs, t_boundFrom))))))))
    else
      some (.inl (.inr (.inr (.inr (.inr (.inr (.inl (v2, v3, v4, v5, v6, v7, k0, 0, t_thrown, t_boundAs, t_boundFrom))))))))
noncomputable def bd_X12_between_5 (t_s : Nat → Int32) (p1 : Int32) (v2 : Int32) (v3 : Int32) (v4 : Int32) (v5 : Int32) (v6 : Int32) (v7 : Int32) (v8 : Int32) (k0 : Int32) (t_thrown : Int32) (t_boundAs : Nat → Int32) (t_boundFrom : Nat → Int32) : Option (((Int32 × Int32 × Int32 × (Nat → Int32) × (Nat → Int32)) ⊕ ((Int32 × Int32 × Int32 × Int32 × Int32 × Int32 × (Nat → Int32) × (Nat → Int32)) ⊕ ((Int32 × Int32 × Int32 × Int32 × Int32 × Int32 × (Nat → Int32) × (Nat → Int32)) ⊕ ((Int32 × Int32 × Int32 × Int32 × Int32 × Int32 × Int32 × (Nat → Int32) × (Nat → Int32)) ⊕ ((Int32 × Int32 × Int32 × Int32 × Int32 × Int32 × Int32 × Int32 × (Nat → Int32) × (Nat → Int32)) ⊕ ((Int32 × Int32 × Int32 × Int32 × Int32 × Int32 × Int32 × Int32 × Int32 × (Nat → Int32) × (Nat → Int32)) ⊕ ((Int32 × Int32 × Int32 × Int32 × Int32 × Int32 × Int32 × Int32 × (Nat → Int32) × (Nat → Int32))))))))) ⊕ (Int32 × Int32 × (Nat → Int32) × (Nat → Int32))) :=
  if k0 = 0 then
    some (.inl (.inr (.inr (.inr (.inr (.inr (.inr ((v2, v3, v4, v5, v6, v7, v8, t_thrown, t_boundAs, t_boundFrom)))))))))
  else
    Option.bind (dn_X12_now t_boundAs t_boundFrom t_s v7 p1) fun q37 =>
    if q37 = 2 then
      some (.inl (.inr (.inr (.inr (.inr (.inr (.inr ((v2, v3, v4, v5, v6, v7, v8, t_thrown, t_boundAs, t_boundFrom)))))))))
    else
      some (.inl (.inr (.inr (.inr (.inr (.inr (.inr ((v2, v3, v4 ||| ((1 : Int32) <<< (v7 &&& 31)), v5, v6, v7, v8, t_thrown, t_boundAs, t_boundFrom)))))))))
noncomputable def bd_X12_between_6 (t_s : Nat → Int32) (p1 : Int32) (v2 : Int32) (v3 : Int32) (v4 : Int32) (v5 : Int32) (v6 : Int32) (v7 : Int32) (v8 : Int32) (t_thrown : Int32) (t_boundAs : Nat → Int32) (t_boundFrom : Nat → Int32) : Option (((Int32 × Int32 × Int32 × (Nat → Int32) × (Nat → Int32)) ⊕ ((Int32 × Int32 × Int32 × Int32 × Int32 × Int32 × (Nat → Int32) × (Nat → Int32)) ⊕ ((Int32 × Int32 × Int32 × Int32 × Int32 × Int32 × (Nat → Int32) × (Nat → Int32)) ⊕ ((Int32 × Int32 × Int32 × Int32 × Int32 × Int32 × Int32 × (Nat → Int32) × (Nat → Int32)) ⊕ ((Int32 × Int32 × Int32 × Int32 × Int32 × Int32 × Int32 × Int32 × (Nat → Int32) × (Nat → Int32)) ⊕ ((Int32 × Int32 × Int32 × Int32 × Int32 × Int32 × Int32 × Int32 × Int32 × (Nat → Int32) × (Nat → Int32)) ⊕ ((Int32 × Int32 × Int32 × Int32 × Int32 × Int32 × Int32 × Int32 × (Nat → Int32) × (Nat → Int32))))))))) ⊕ (Int32 × Int32 × (Nat → Int32) × (Nat → Int32))) :=
  if v8 = 0 then
    some (.inl (.inr (.inl (v2, v3, v4, v5, v6 + 1, t_thrown, t_boundAs, t_boundFrom))))
  else
    Option.bind (dn_X12_now t_boundAs t_boundFrom t_s v7 p1) fun q40 =>
    if q40 = 1 then
      some (.inl (.inr (.inl (v2, v3, v4, v5, v6 + 1, t_thrown, t_boundAs, t_boundFrom))))
    else
      some (.inl (.inr (.inl (v2, v3, v4, v5 ||| ((1 : Int32) <<< (v7 &&& 31)), v6 + 1, t_thrown, t_boundAs, t_boundFrom))))
noncomputable def st_X12_between (t_s : Nat → Int32) (p1 : Int32) : ((Int32 × Int32 × Int32 × (Nat → Int32) × (Nat → Int32)) ⊕ ((Int32 × Int32 × Int32 × Int32 × Int32 × Int32 × (Nat → Int32) × (Nat → Int32)) ⊕ ((Int32 × Int32 × Int32 × Int32 × Int32 × Int32 × (Nat → Int32) × (Nat → Int32)) ⊕ ((Int32 × Int32 × Int32 × Int32 × Int32 × Int32 × Int32 × (Nat → Int32) × (Nat → Int32)) ⊕ ((Int32 × Int32 × Int32 × Int32 × Int32 × Int32 × Int32 × Int32 × (Nat → Int32) × (Nat → Int32)) ⊕ ((Int32 × Int32 × Int32 × Int32 × Int32 × Int32 × Int32 × Int32 × Int32 × (Nat → Int32) × (Nat → Int32)) ⊕ ((Int32 × Int32 × Int32 × Int32 × Int32 × Int32 × Int32 × Int32 × (Nat → Int32) × (Nat → Int32))))))))) → Option (((Int32 × Int32 × Int32 × (Nat → Int32) × (Nat → Int32)) ⊕ ((Int32 × Int32 × Int32 × Int32 × Int32 × Int32 × (Nat → Int32) × (Nat → Int32)) ⊕ ((Int32 × Int32 × Int32 × Int32 × Int32 × Int32 × (Nat → Int32) × (Nat → Int32)) ⊕ ((Int32 × Int32 × Int32 × Int32 × Int32 × Int32 × Int32 × (Nat → Int32) × (Nat → Int32)) ⊕ ((Int32 × Int32 × Int32 × Int32 × Int32 × Int32 × Int32 × Int32 × (Nat → Int32) × (Nat → Int32)) ⊕ ((Int32 × Int32 × Int32 × Int32 × Int32 × Int32 × Int32 × Int32 × Int32 × (Nat → Int32) × (Nat → Int32)) ⊕ ((Int32 × Int32 × Int32 × Int32 × Int32 × Int32 × Int32 × Int32 × (Nat → Int32) × (Nat → Int32))))))))) ⊕ (Int32 × Int32 × (Nat → Int32) × (Nat → Int32))) := fun s => match s with
  | .inl (v2, v3, t_thrown, t_boundAs, t_boundFrom) => bd_X12_between_0 t_s p1 v2 v3 t_thrown t_boundAs t_boundFrom
  | .inr (.inl (v2, v3, v4, v5, v6, t_thrown, t_boundAs, t_boundFrom)) => bd_X12_between_1 t_s p1 v2 v3 v4 v5 v6 t_thrown t_boundAs t_boundFrom
  | .inr (.inr (.inl (v2, v3, v4, v5, v6, t_thrown, t_boundAs, t_boundFrom))) => bd_X12_between_2 t_s p1 v2 v3 v4 v5 v6 t_thrown t_boundAs t_boundFrom
  | .inr (.inr (.inr (.inl (v2, v3, v4, v5, v6, k0, t_thrown, t_boundAs, t_boundFrom)))) => bd_X12_between_3 t_s p1 v2 v3 v4 v5 v6 k0 t_thrown t_boundAs t_boundFrom
  | .inr (.inr (.inr (.inr (.inl (v2, v3, v4, v5, v6, v7, k0, t_thrown, t_boundAs, t_boundFrom))))) => bd_X12_between_4 t_s p1 v2 v3 v4 v5 v6 v7 k0 t_thrown t_boundAs t_boundFrom
  | .inr (.inr (.inr (.inr (.inr (.inl (v2, v3, v4, v5, v6, v7, v8, k0, t_thrown, t_boundAs, t_boundFrom)))))) => bd_X12_between_5 t_s p1 v2 v3 v4 v5 v6 v7 v8 k0 t_thrown t_boundAs t_boundFrom
  | .inr (.inr (.inr (.inr (.inr (.inr ((v2, v3, v4, v5, v6, v7, v8, t_thrown, t_boundAs, t_boundFrom))))))) => bd_X12_between_6 t_s p1 v2 v3 v4 v5 v6 v7 v8 t_thrown t_boundAs t_boundFrom
noncomputable def gn_X12_between_0 (t_s : Nat → Int32) (p1 : Int32) (v2 : Int32) (v3 : Int32) (t_thrown : Int32) (t_boundAs : Nat → Int32) (t_boundFrom : Nat → Int32) : Option (Int32 × Int32 × (Nat → Int32) × (Nat → Int32)) := lpC (st_X12_between t_s p1) (.inl (v2, v3, t_thrown, t_boundAs, t_boundFrom))
noncomputable def gn_X12_between_1 (t_s : Nat → Int32) (p1 : Int32) (v2 : Int32) (v3 : Int32) (v4 : Int32) (v5 : Int32) (v6 : Int32) (t_thrown : Int32) (t_boundAs : Nat → Int32) (t_boundFrom : Nat → Int32) : Option (Int32 × Int32 × (Nat → Int32) × (Nat → Int32)) := lpC (st_X12_between t_s p1) (.inr (.inl (v2, v3, v4, v5, v6, t_thrown, t_boundAs, t_boundFrom)))
noncomputable def gn_X12_between_2 (t_s : Nat → Int32) (p1 : Int32) (v2 : Int32) (v3 : Int32) (v4 : Int32) (v5 : Int32) (v6 : Int32) (t_thrown : Int32) (t_boundAs : Nat → Int32) (t_boundFrom : Nat → Int32) : Option (Int32 × Int32 × (Nat → Int32) × (Nat → Int32)) := lpC (st_X12_between t_s p1) (.inr (.inr (.inl (v2, v3, v4, v5, v6, t_thrown, t_boundAs, t_boundFrom))))
noncomputable def gn_X12_between_3 (t_s : Nat → Int32) (p1 : Int32) (v2 : Int32) (v3 : Int32) (v4 : Int32) (v5 : Int32) (v6 : Int32) (k0 : Int32) (t_thrown : Int32) (t_boundAs : Nat → Int32) (t_boundFrom : Nat → Int32) : Option (Int32 × Int32 × (Nat → Int32) × (Nat → Int32)) := lpC (st_X12_between t_s p1) (.inr (.inr (.inr (.inl (v2, v3, v4, v5, v6, k0, t_thrown, t_boundAs, t_boundFrom)))))
noncomputable def gn_X12_between_4 (t_s : Nat → Int32) (p1 : Int32) (v2 : Int32) (v3 : Int32) (v4 : Int32) (v5 : Int32) (v6 : Int32) (v7 : Int32) (k0 : Int32) (t_thrown : Int32) (t_boundAs : Nat → Int32) (t_boundFrom : Nat → Int32) : Option (Int32 × Int32 × (Nat → Int32) × (Nat → Int32)) := lpC (st_X12_between t_s p1) (.inr (.inr (.inr (.inr (.inl (v2, v3, v4, v5, v6, v7, k0, t_thrown, t_boundAs, t_boundFrom))))))
noncomputable def gn_X12_between_5 (t_s : Nat → Int32) (p1 : Int32) (v2 : Int32) (v3 : Int32) (v4 : Int32) (v5 : Int32) (v6 : Int32) (v7 : Int32) (v8 : Int32) (k0 : Int32) (t_thrown : Int32) (t_boundAs : Nat → Int32) (t_boundFrom : Nat → Int32) : Option (Int32 × Int32 × (Nat → Int32) × (Nat → Int32)) := lpC (st_X12_between t_s p1) (.inr (.inr (.inr (.inr (.inr (.inl (v2, v3, v4, v5, v6, v7, v8, k0, t_thrown, t_boundAs, t_boundFrom)))))))
noncomputable def gn_X12_between_6 (t_s : Nat → Int32) (p1 : Int32) (v2 : Int32) (v3 : Int32) (v4 : Int32) (v5 : Int32) (v6 : Int32) (v7 : Int32) (v8 : Int32) (t_thrown : Int32) (t_boundAs : Nat → Int32) (t_boundFrom : Nat → Int32) : Option (Int32 × Int32 × (Nat → Int32) × (Nat → Int32)) := lpC (st_X12_between t_s p1) (.inr (.inr (.inr (.inr (.inr (.inr ((v2, v3, v4, v5, v6, v7, v8, t_thrown, t_boundAs, t_boundFrom))))))))
theorem gq_X12_between_0 (t_s : Nat → Int32) (p1 : Int32) (v2 : Int32) (v3 : Int32) (t_thrown : Int32) (t_boundAs : Nat → Int32) (t_boundFrom : Nat → Int32) : gn_X12_between_0 t_s p1 v2 v3 t_thrown t_boundAs t_boundFrom =
    if (t_s (0 : Int32).toNatClampNeg) ≤ v3 then
      some (v2, t_thrown, t_boundAs, t_boundFrom)
    else
      if inb ((4 : Int32) + v3) 284 = true then
      if inb ((14 : Int32) + v3) 284 = true then
      Option.bind (dn_X12_isIn p1 (t_s (((4 : Int32) + v3)).toNatClampNeg) (t_s (((14 : Int32) + v3)).toNatClampNeg)) fun q7 =>
      if q7 = true then
        Option.bind (dn_X12_now t_boundAs t_boundFrom t_s v3 p1) fun q9 =>
        if q9 ≤ 0 then
          gn_X12_between_1 t_s p1 v2 v3 0 0 0 t_thrown t_boundAs t_boundFrom
        else
          gn_X12_between_0 t_s p1 v2 (v3 + 1) t_thrown t_boundAs t_boundFrom
      else
        gn_X12_between_0 t_s p1 v2 (v3 + 1) t_thrown t_boundAs t_boundFrom
      else none
      else none := by
  rw [gn_X12_between_0, lpC_eq]
  show lpO _ (bd_X12_between_0 t_s p1 v2 v3 t_thrown t_boundAs t_boundFrom) = _
  unfold bd_X12_between_0
  simp only [lpO_ite, lpO_bind, lpO_none, lpO_l, lpO_r]
  try rfl
theorem gq_X12_between_1 (t_s : Nat → Int32) (p1 : Int32) (v2 : Int32) (v3 : Int32) (v4 : Int32) (v5 : Int32) (v6 : Int32) (t_thrown : Int32) (t_boundAs : Nat → Int32) (t_boundFrom : Nat → Int32) : gn_X12_between_1 t_s p1 v2 v3 v4 v5 v6 t_thrown t_boundAs t_boundFrom =
    if (t_s (1 : Int32).toNatClampNeg) ≤ v6 then
      if v4 = 0 then
        gn_X12_between_0 t_s p1 v2 (v3 + 1) t_thrown t_boundAs t_boundFrom
      else
        if v5 = 0 then
          gn_X12_between_0 t_s p1 v2 (v3 + 1) t_thrown t_boundAs t_boundFrom
        else
          Option.bind (dn_X12_bits (v4 ||| v5)) fun q14 =>
          if q14 ≤ 1 then
            gn_X12_between_0 t_s p1 v2 (v3 + 1) t_thrown t_boundAs t_boundFrom
          else
            gn_X12_between_0 t_s p1 (v2 ||| ((1 : Int32) <<< (v3 &&& 31))) (v3 + 1) t_thrown t_boundAs t_boundFrom
    else
      Option.bind (dn_X12_of t_s v6 2) fun q16 =>
      if q16 = p1 then
        Option.bind (dn_X12_doneAs t_s v6) fun q18 =>
        if 0 < q18 then
          gn_X12_between_1 t_s p1 v2 v3 v4 v5 (v6 + 1) t_thrown t_boundAs t_boundFrom
        else
          Option.bind (dn_X12_of t_s v6 0) fun q20 =>
          if q20 = v3 then
            gn_X12_between_2 t_s p1 v2 v3 v4 v5 v6 t_thrown t_boundAs t_boundFrom
          else
            Option.bind (dn_X12_of t_s v6 1) fun q22 =>
            if q22 = v3 then
              gn_X12_between_2 t_s p1 v2 v3 v4 v5 v6 t_thrown t_boundAs t_boundFrom
            else
              gn_X12_between_1 t_s p1 v2 v3 v4 v5 (v6 + 1) t_thrown t_boundAs t_boundFrom
      else
        gn_X12_between_1 t_s p1 v2 v3 v4 v5 (v6 + 1) t_thrown t_boundAs t_boundFrom := by
  rw [gn_X12_between_1, lpC_eq]
  show lpO _ (bd_X12_between_1 t_s p1 v2 v3 v4 v5 v6 t_thrown t_boundAs t_boundFrom) = _
  unfold bd_X12_between_1
  simp only [lpO_ite, lpO_bind, lpO_none, lpO_l, lpO_r]
  try rfl
theorem gq_X12_between_2 (t_s : Nat → Int32) (p1 : Int32) (v2 : Int32) (v3 : Int32) (v4 : Int32) (v5 : Int32) (v6 : Int32) (t_thrown : Int32) (t_boundAs : Nat → Int32) (t_boundFrom : Nat → Int32) : gn_X12_between_2 t_s p1 v2 v3 v4 v5 v6 t_thrown t_boundAs t_boundFrom =
    Option.bind (dn_X12_of t_s v6 0) fun q24 =>
    if q24 = v3 then
      Option.bind (dn_X12_of t_s v6 1) fun q27 =>
      gn_X12_between_3 t_s p1 v2 v3 v4 v5 v6 q27 t_thrown t_boundAs t_boundFrom
    else
      Option.bind (dn_X12_of t_s v6 0) fun q26 =>
      gn_X12_between_3 t_s p1 v2 v3 v4 v5 v6 q26 t_thrown t_boundAs t_boundFrom := by
  rw [gn_X12_between_2, lpC_eq]
  show lpO _ (bd_X12_between_2 t_s p1 v2 v3 v4 v5 v6 t_thrown t_boundAs t_boundFrom) = _
  unfold bd_X12_between_2
  simp only [lpO_ite, lpO_bind, lpO_none, lpO_l, lpO_r]
  try rfl
theorem gq_X12_between_3 (t_s : Nat → Int32) (p1 : Int32) (v2 : Int32) (v3 : Int32) (v4 : Int32) (v5 : Int32) (v6 : Int32) (k0 : Int32) (t_thrown : Int32) (t_boundAs : Nat → Int32) (t_boundFrom : Nat → Int32) : gn_X12_between_3 t_s p1 v2 v3 v4 v5 v6 k0 t_thrown t_boundAs t_boundFrom =
    Option.bind (dn_X12_of t_s v6 0) fun q28 =>
    if q28 = v3 then
      gn_X12_between_4 t_s p1 v2 v3 v4 v5 v6 k0 1 t_thrown t_boundAs t_boundFrom
    else
      Option.bind (dn_X12_of t_s v6 5) fun q30 =>
      if q30 = 1 then
        gn_X12_between_4 t_s p1 v2 v3 v4 v5 v6 k0 1 t_thrown t_boundAs t_boundFrom
      else
        gn_X12_between_4 t_s p1 v2 v3 v4 v5 v6 k0 0 t_thrown t_boundAs t_boundFrom := by
  rw [gn_X12_between_3, lpC_eq]
  show lpO _ (bd_X12_between_3 t_s p1 v2 v3 v4 v5 v6 k0 t_thrown t_boundAs t_boundFrom) = _
  unfold bd_X12_between_3
  simp only [lpO_ite, lpO_bind, lpO_none, lpO_l, lpO_r]
  try rfl
theorem gq_X12_between_4 (t_s : Nat → Int32) (p1 : Int32) (v2 : Int32) (v3 : Int32) (v4 : Int32) (v5 : Int32) (v6 : Int32) (v7 : Int32) (k0 : Int32) (t_thrown : Int32) (t_boundAs : Nat → Int32) (t_boundFrom : Nat → Int32) : gn_X12_between_4 t_s p1 v2 v3 v4 v5 v6 v7 k0 t_thrown t_boundAs t_boundFrom =
    Option.bind (dn_X12_of t_s v6 1) fun q32 =>
    if q32 = v3 then
      gn_X12_between_5 t_s p1 v2 v3 v4 v5 v6 v7 k0 1 t_thrown t_boundAs t_boundFrom
    else
      Option.bind (dn_X12_of t_s v6 5) fun q34 =>
      if q34 = 1 then
        gn_X12_between_5 t_s p1 v2 v3 v4 v5 v6 v7 k0 1 t_thrown t_boundAs t_boundFrom
      else
        gn_X12_between_5 t_s p1 v2 v3 v4 v5 v6 v7 k0 0 t_thrown t_boundAs t_boundFrom := by
  rw [gn_X12_between_4, lpC_eq]
  show lpO _ (bd_X12_between_4 t_s p1 v2 v3 v4 v5 v6 v7 k0 t_thrown t_boundAs t_boundFrom) = _
  unfold bd_X12_between_4
  simp only [lpO_ite, lpO_bind, lpO_none, lpO_l, lpO_r]
  try rfl
theorem gq_X12_between_5 (t_s : Nat → Int32) (p1 : Int32) (v2 : Int32) (v3 : Int32) (v4 : Int32) (v5 : Int32) (v6 : Int32) (v7 : Int32) (v8 : Int32) (k0 : Int32) (t_thrown : Int32) (t_boundAs : Nat → Int32) (t_boundFrom : Nat → Int32) : gn_X12_between_5 t_s p1 v2 v3 v4 v5 v6 v7 v8 k0 t_thrown t_boundAs t_boundFrom =
    if k0 = 0 then
      gn_X12_between_6 t_s p1 v2 v3 v4 v5 v6 v7 v8 t_thrown t_boundAs t_boundFrom
    else
      Option.bind (dn_X12_now t_boundAs t_boundFrom t_s v7 p1) fun q37 =>
      if q37 = 2 then
        gn_X12_between_6 t_s p1 v2 v3 v4 v5 v6 v7 v8 t_thrown t_boundAs t_boundFrom
      else
        gn_X12_between_6 t_s p1 v2 v3 (v4 ||| ((1 : Int32) <<< (v7 &&& 31))) v5 v6 v7 v8 t_thrown t_boundAs t_boundFrom := by
  rw [gn_X12_between_5, lpC_eq]
  show lpO _ (bd_X12_between_5 t_s p1 v2 v3 v4 v5 v6 v7 v8 k0 t_thrown t_boundAs t_boundFrom) = _
  unfold bd_X12_between_5
  simp only [lpO_ite, lpO_bind, lpO_none, lpO_l, lpO_r]
  try rfl
theorem gq_X12_between_6 (t_s : Nat → Int32) (p1 : Int32) (v2 : Int32) (v3 : Int32) (v4 : Int32) (v5 : Int32) (v6 : Int32) (v7 : Int32) (v8 : Int32) (t_thrown : Int32) (t_boundAs : Nat → Int32) (t_boundFrom : Nat → Int32) : gn_X12_between_6 t_s p1 v2 v3 v4 v5 v6 v7 v8 t_thrown t_boundAs t_boundFrom =
    if v8 = 0 then
      gn_X12_between_1 t_s p1 v2 v3 v4 v5 (v6 + 1) t_thrown t_boundAs t_boundFrom
    else
      Option.bind (dn_X12_now t_boundAs t_boundFrom t_s v7 p1) fun q40 =>
      if q40 = 1 then
        gn_X12_between_1 t_s p1 v2 v3 v4 v5 (v6 + 1) t_thrown t_boundAs t_boundFrom
      else
        gn_X12_between_1 t_s p1 v2 v3 v4 (v5 ||| ((1 : Int32) <<< (v7 &&& 31))) (v6 + 1) t_thrown t_boundAs t_boundFrom := by
  rw [gn_X12_between_6, lpC_eq]
  show lpO _ (bd_X12_between_6 t_s p1 v2 v3 v4 v5 v6 v7 v8 t_thrown t_boundAs t_boundFrom) = _
  unfold bd_X12_between_6
  simp only [lpO_ite, lpO_bind, lpO_none, lpO_l, lpO_r]
  try rfl
noncomputable def dn_X12_between (t_boundAs : Nat → Int32) (t_boundFrom : Nat → Int32) (t_s : Nat → Int32) (p1 : Int32) : Option (Int32 × Int32 × (Nat → Int32) × (Nat → Int32)) :=
  Option.bind (dn_X12_isIn p1 0 59) fun q1 =>
  if q1 = true then
    Option.bind (dn_X12_bind t_boundAs t_boundFrom t_s p1) fun q3 =>
    gn_X12_between_0 t_s p1 0 0 0 q3.1 q3.2
  else
    some ((-1), 0, t_boundAs, t_boundFrom)
noncomputable def dn_X12_draw (t_seed : Int32) (p1 : Int32) : Option (Int32 × Int32) :=
  if ¬ p1 = 0 then
  some (((((t_seed * 1103515245) + 12345).toUInt32 >>> ((8 : Int32).toUInt32 &&& Int32.toUInt32 31)).toInt32) - ((((t_seed * 1103515245) + 12345).toUInt32 >>> ((8 : Int32).toUInt32 &&& Int32.toUInt32 31)).toInt32) / p1 * p1, (t_seed * 1103515245) + 12345)
  else none
noncomputable def bd_X12_run_0  (v2 : Int32) (t_thrown : Int32) (t_order : Nat → Int32) (t_seed : Int32) (t_s : Nat → Int32) (t_refused : Int32) (t_boundAs : Nat → Int32) (t_boundFrom : Nat → Int32) : Option (((Int32 × Int32 × (Nat → Int32) × Int32 × (Nat → Int32) × Int32 × (Nat → Int32) × (Nat → Int32)) ⊕ ((Int32 × Int32 × Int32 × Int32 × (Nat → Int32) × Int32 × (Nat → Int32) × Int32 × (Nat → Int32) × (Nat → Int32)))) ⊕ (Int32 × Int32 × (Nat → Int32) × Int32 × (Nat → Int32) × Int32 × (Nat → Int32) × (Nat → Int32))) :=
  if (t_s (1 : Int32).toNatClampNeg) ≤ v2 then
    some (.inr (t_s (3 : Int32).toNatClampNeg, t_thrown, t_order, t_seed, t_s, t_refused, t_boundAs, t_boundFrom))
  else
    if inb v2 30 = true then
    Option.bind (dn_X12_draw t_seed 4) fun q5 =>
    if q5.1 = 0 then
      some (.inl (.inl (v2 + 1, t_thrown, t_order, q5.2, t_s, t_refused, t_boundAs, t_boundFrom)))
    else
      if q5.1 = 1 then
        Option.bind (dn_X12_of t_s (t_order (v2).toNatClampNeg) 5) fun q8 =>
        if q8 = 1 then
          some (.inl (.inr ((v2, t_order (v2).toNatClampNeg, 1, t_thrown, t_order, q5.2, t_s, t_refused, t_boundAs, t_boundFrom))))
        else
          some (.inl (.inr ((v2, t_order (v2).toNatClampNeg, 0, t_thrown, t_order, q5.2, t_s, t_refused, t_boundAs, t_boundFrom))))
      else
        some (.inl (.inr ((v2, t_order (v2).toNatClampNeg, 0, t_thrown, t_order, q5.2, t_s, t_refused, t_boundAs, t_boundFrom))))
    else none
noncomputable def bd_X12_run_1  (v2 : Int32) (v3 : Int32) (k0 : Int32) (t_thrown : Int32) (t_order : Nat → Int32) (t_seed : Int32) (t_s : Nat → Int32) (t_refused : Int32) (t_boundAs : Nat → Int32) (t_boundFrom : Nat → Int32) : Option (((Int32 × Int32 × (Nat → Int32) × Int32 × (Nat → Int32) × Int32 × (Nat → Int32) × (Nat → Int32)) ⊕ ((Int32 × Int32 × Int32 × Int32 × (Nat → Int32) × Int32 × (Nat → Int32) × Int32 × (Nat → Int32) × (Nat → Int32)))) ⊕ (Int32 × Int32 × (Nat → Int32) × Int32 × (Nat → Int32) × Int32 × (Nat → Int32) × (Nat → Int32))) :=
  Option.bind (dn_X12_wrong t_boundAs t_boundFrom t_s v3 k0) fun q10 =>
  if q10.1 = 0 then
    Option.bind (dn_X12_put t_s v3 k0) fun q12 =>
    some (.inl (.inl (v2 + 1, t_thrown, t_order, t_seed, q12, t_refused, q10.2.1, q10.2.2)))
  else
    some (.inl (.inl (v2 + 1, t_thrown, t_order, t_seed, t_s, t_refused + 1, q10.2.1, q10.2.2)))
noncomputable def st_X12_run  : ((Int32 × Int32 × (Nat → Int32) × Int32 × (Nat → Int32) × Int32 × (Nat → Int32) × (Nat → Int32)) ⊕ ((Int32 × Int32 × Int32 × Int32 × (Nat → Int32) × Int32 × (Nat → Int32) × Int32 × (Nat → Int32) × (Nat → Int32)))) → Option (((Int32 × Int32 × (Nat → Int32) × Int32 × (Nat → Int32) × Int32 × (Nat → Int32) × (Nat → Int32)) ⊕ ((Int32 × Int32 × Int32 × Int32 × (Nat → Int32) × Int32 × (Nat → Int32) × Int32 × (Nat → Int32) × (Nat → Int32)))) ⊕ (Int32 × Int32 × (Nat → Int32) × Int32 × (Nat → Int32) × Int32 × (Nat → Int32) × (Nat → Int32))) := fun s => match s with
  | .inl (v2, t_thrown, t_order, t_seed, t_s, t_refused, t_boundAs, t_boundFrom) => bd_X12_run_0  v2 t_thrown t_order t_seed t_s t_refused t_boundAs t_boundFrom
  | .inr ((v2, v3, k0, t_thrown, t_order, t_seed, t_s, t_refused, t_boundAs, t_boundFrom)) => bd_X12_run_1  v2 v3 k0 t_thrown t_order t_seed t_s t_refused t_boundAs t_boundFrom
noncomputable def gn_X12_run_0  (v2 : Int32) (t_thrown : Int32) (t_order : Nat → Int32) (t_seed : Int32) (t_s : Nat → Int32) (t_refused : Int32) (t_boundAs : Nat → Int32) (t_boundFrom : Nat → Int32) : Option (Int32 × Int32 × (Nat → Int32) × Int32 × (Nat → Int32) × Int32 × (Nat → Int32) × (Nat → Int32)) := lpC (st_X12_run ) (.inl (v2, t_thrown, t_order, t_seed, t_s, t_refused, t_boundAs, t_boundFrom))
noncomputable def gn_X12_run_1  (v2 : Int32) (v3 : Int32) (k0 : Int32) (t_thrown : Int32) (t_order : Nat → Int32) (t_seed : Int32) (t_s : Nat → Int32) (t_refused : Int32) (t_boundAs : Nat → Int32) (t_boundFrom : Nat → Int32) : Option (Int32 × Int32 × (Nat → Int32) × Int32 × (Nat → Int32) × Int32 × (Nat → Int32) × (Nat → Int32)) := lpC (st_X12_run ) (.inr ((v2, v3, k0, t_thrown, t_order, t_seed, t_s, t_refused, t_boundAs, t_boundFrom)))
theorem gq_X12_run_0  (v2 : Int32) (t_thrown : Int32) (t_order : Nat → Int32) (t_seed : Int32) (t_s : Nat → Int32) (t_refused : Int32) (t_boundAs : Nat → Int32) (t_boundFrom : Nat → Int32) : gn_X12_run_0  v2 t_thrown t_order t_seed t_s t_refused t_boundAs t_boundFrom =
    if (t_s (1 : Int32).toNatClampNeg) ≤ v2 then
      some (t_s (3 : Int32).toNatClampNeg, t_thrown, t_order, t_seed, t_s, t_refused, t_boundAs, t_boundFrom)
    else
      if inb v2 30 = true then
      Option.bind (dn_X12_draw t_seed 4) fun q5 =>
      if q5.1 = 0 then
        gn_X12_run_0  (v2 + 1) t_thrown t_order q5.2 t_s t_refused t_boundAs t_boundFrom
      else
        if q5.1 = 1 then
          Option.bind (dn_X12_of t_s (t_order (v2).toNatClampNeg) 5) fun q8 =>
          if q8 = 1 then
            gn_X12_run_1  v2 (t_order (v2).toNatClampNeg) 1 t_thrown t_order q5.2 t_s t_refused t_boundAs t_boundFrom
          else
            gn_X12_run_1  v2 (t_order (v2).toNatClampNeg) 0 t_thrown t_order q5.2 t_s t_refused t_boundAs t_boundFrom
        else
          gn_X12_run_1  v2 (t_order (v2).toNatClampNeg) 0 t_thrown t_order q5.2 t_s t_refused t_boundAs t_boundFrom
      else none := by
  rw [gn_X12_run_0, lpC_eq]
  show lpO _ (bd_X12_run_0  v2 t_thrown t_order t_seed t_s t_refused t_boundAs t_boundFrom) = _
  unfold bd_X12_run_0
  simp only [lpO_ite, lpO_bind, lpO_none, lpO_l, lpO_r]
  try rfl
theorem gq_X12_run_1  (v2 : Int32) (v3 : Int32) (k0 : Int32) (t_thrown : Int32) (t_order : Nat → Int32) (t_seed : Int32) (t_s : Nat → Int32) (t_refused : Int32) (t_boundAs : Nat → Int32) (t_boundFrom : Nat → Int32) : gn_X12_run_1  v2 v3 k0 t_thrown t_order t_seed t_s t_refused t_boundAs t_boundFrom =
    Option.bind (dn_X12_wrong t_boundAs t_boundFrom t_s v3 k0) fun q10 =>
    if q10.1 = 0 then
      Option.bind (dn_X12_put t_s v3 k0) fun q12 =>
      gn_X12_run_0  (v2 + 1) t_thrown t_order t_seed q12 t_refused q10.2.1 q10.2.2
    else
      gn_X12_run_0  (v2 + 1) t_thrown t_order t_seed t_s (t_refused + 1) q10.2.1 q10.2.2 := by
  rw [gn_X12_run_1, lpC_eq]
  show lpO _ (bd_X12_run_1  v2 v3 k0 t_thrown t_order t_seed t_s t_refused t_boundAs t_boundFrom) = _
  unfold bd_X12_run_1
  simp only [lpO_ite, lpO_bind, lpO_none, lpO_l, lpO_r]
  try rfl
noncomputable def dn_X12_run (t_seed : Int32) (t_refused : Int32) (t_boundAs : Nat → Int32) (t_boundFrom : Nat → Int32) (t_order : Nat → Int32) (t_s : Nat → Int32) (p1 : Int32) : Option (Int32 × Int32 × (Nat → Int32) × Int32 × (Nat → Int32) × Int32 × (Nat → Int32) × (Nat → Int32)) :=
  if (t_s (1 : Int32).toNatClampNeg) = 0 then
    some ((-1), 0, t_order, t_seed, t_s, t_refused, t_boundAs, t_boundFrom)
  else
    Option.bind (dn_X12_byYears t_order t_s) fun q2 =>
    gn_X12_run_0  0 0 q2 p1 (upd t_s (3 : Int32).toNatClampNeg 0) 0 t_boundAs t_boundFrom
noncomputable def dn_X12_refused (t_refused : Int32) : Option (Int32 × Int32) :=
  some (t_refused, 0)
noncomputable def bd_X12_image_0 (t_names : Nat → Int64) (t_s : Nat → Int32) (p1 : Int32) (v2 : Int32) (t_thrown : Int32) (t_kept : Nat → Int32) (t_isKept : Nat → Int32) (t_namesKept : Nat → Int64) : Option (((Int32 × Int32 × (Nat → Int32) × (Nat → Int32) × (Nat → Int64)) ⊕ ((Int32 × Int32 × (Nat → Int32) × (Nat → Int32) × (Nat → Int64)))) ⊕ (Bool × Int32 × (Nat → Int32) × (Nat → Int32) × (Nat → Int64))) :=
  if (284 : Int32) ≤ v2 then
    some (.inl (.inr ((0, t_thrown, t_kept, t_isKept, t_namesKept))))
  else
    if inb v2 284 = true then
    if inb (((284 : Int32) * p1) + v2) 568 = true then
    some (.inl (.inl (v2 + 1, t_thrown, upd t_kept (((284 : Int32) * p1) + v2).toNatClampNeg (t_s (v2).toNatClampNeg), t_isKept, t_namesKept)))
    else none
    else none
noncomputable def bd_X12_image_1 (t_names : Nat → Int64) (t_s : Nat → Int32) (p1 : Int32) (v2 : Int32) (t_thrown : Int32) (t_kept : Nat → Int32) (t_isKept : Nat → Int32) (t_namesKept : Nat → Int64) : Option (((Int32 × Int32 × (Nat → Int32) × (Nat → Int32) × (Nat → Int64)) ⊕ ((Int32 × Int32 × (Nat → Int32) × (Nat → Int32) × (Nat → Int64)))) ⊕ (Bool × Int32 × (Nat → Int32) × (Nat → Int32) × (Nat → Int64))) :=
  if (40 : Int32) ≤ v2 then
    if inb p1 2 = true then
    some (.inr (true, t_thrown, t_kept, upd t_isKept (p1).toNatClampNeg (vp_nar .boolean 1), t_namesKept))
    else none
  else
    if inb v2 80 = true then
    if inb (((40 : Int32) * p1) + v2) 80 = true then
    some (.inl (.inr ((v2 + 1, t_thrown, t_kept, t_isKept, vp_updL t_namesKept (((40 : Int32) * p1) + v2).toNatClampNeg (t_names (v2).toNatClampNeg)))))
    else none
    else none
noncomputable def st_X12_image (t_names : Nat → Int64) (t_s : Nat → Int32) (p1 : Int32) : ((Int32 × Int32 × (Nat → Int32) × (Nat → Int32) × (Nat → Int64)) ⊕ ((Int32 × Int32 × (Nat → Int32) × (Nat → Int32) × (Nat → Int64)))) → Option (((Int32 × Int32 × (Nat → Int32) × (Nat → Int32) × (Nat → Int64)) ⊕ ((Int32 × Int32 × (Nat → Int32) × (Nat → Int32) × (Nat → Int64)))) ⊕ (Bool × Int32 × (Nat → Int32) × (Nat → Int32) × (Nat → Int64))) := fun s => match s with
  | .inl (v2, t_thrown, t_kept, t_isKept, t_namesKept) => bd_X12_image_0 t_names t_s p1 v2 t_thrown t_kept t_isKept t_namesKept
  | .inr ((v2, t_thrown, t_kept, t_isKept, t_namesKept)) => bd_X12_image_1 t_names t_s p1 v2 t_thrown t_kept t_isKept t_namesKept
noncomputable def gn_X12_image_0 (t_names : Nat → Int64) (t_s : Nat → Int32) (p1 : Int32) (v2 : Int32) (t_thrown : Int32) (t_kept : Nat → Int32) (t_isKept : Nat → Int32) (t_namesKept : Nat → Int64) : Option (Bool × Int32 × (Nat → Int32) × (Nat → Int32) × (Nat → Int64)) := lpC (st_X12_image t_names t_s p1) (.inl (v2, t_thrown, t_kept, t_isKept, t_namesKept))
noncomputable def gn_X12_image_1 (t_names : Nat → Int64) (t_s : Nat → Int32) (p1 : Int32) (v2 : Int32) (t_thrown : Int32) (t_kept : Nat → Int32) (t_isKept : Nat → Int32) (t_namesKept : Nat → Int64) : Option (Bool × Int32 × (Nat → Int32) × (Nat → Int32) × (Nat → Int64)) := lpC (st_X12_image t_names t_s p1) (.inr ((v2, t_thrown, t_kept, t_isKept, t_namesKept)))
theorem gq_X12_image_0 (t_names : Nat → Int64) (t_s : Nat → Int32) (p1 : Int32) (v2 : Int32) (t_thrown : Int32) (t_kept : Nat → Int32) (t_isKept : Nat → Int32) (t_namesKept : Nat → Int64) : gn_X12_image_0 t_names t_s p1 v2 t_thrown t_kept t_isKept t_namesKept =
    if (284 : Int32) ≤ v2 then
      gn_X12_image_1 t_names t_s p1 0 t_thrown t_kept t_isKept t_namesKept
    else
      if inb v2 284 = true then
      if inb (((284 : Int32) * p1) + v2) 568 = true then
      gn_X12_image_0 t_names t_s p1 (v2 + 1) t_thrown (upd t_kept (((284 : Int32) * p1) + v2).toNatClampNeg (t_s (v2).toNatClampNeg)) t_isKept t_namesKept
      else none
      else none := by
  rw [gn_X12_image_0, lpC_eq]
  show lpO _ (bd_X12_image_0 t_names t_s p1 v2 t_thrown t_kept t_isKept t_namesKept) = _
  unfold bd_X12_image_0
  simp only [lpO_ite, lpO_bind, lpO_none, lpO_l, lpO_r]
  try rfl
theorem gq_X12_image_1 (t_names : Nat → Int64) (t_s : Nat → Int32) (p1 : Int32) (v2 : Int32) (t_thrown : Int32) (t_kept : Nat → Int32) (t_isKept : Nat → Int32) (t_namesKept : Nat → Int64) : gn_X12_image_1 t_names t_s p1 v2 t_thrown t_kept t_isKept t_namesKept =
    if (40 : Int32) ≤ v2 then
      if inb p1 2 = true then
      some (true, t_thrown, t_kept, upd t_isKept (p1).toNatClampNeg (vp_nar .boolean 1), t_namesKept)
      else none
    else
      if inb v2 80 = true then
      if inb (((40 : Int32) * p1) + v2) 80 = true then
      gn_X12_image_1 t_names t_s p1 (v2 + 1) t_thrown t_kept t_isKept (vp_updL t_namesKept (((40 : Int32) * p1) + v2).toNatClampNeg (t_names (v2).toNatClampNeg))
      else none
      else none := by
  rw [gn_X12_image_1, lpC_eq]
  show lpO _ (bd_X12_image_1 t_names t_s p1 v2 t_thrown t_kept t_isKept t_namesKept) = _
  unfold bd_X12_image_1
  simp only [lpO_ite, lpO_bind, lpO_none, lpO_l, lpO_r]
  try rfl
noncomputable def dn_X12_image (t_isKept : Nat → Int32) (t_kept : Nat → Int32) (t_names : Nat → Int64) (t_namesKept : Nat → Int64) (t_s : Nat → Int32) (p1 : Int32) : Option (Bool × Int32 × (Nat → Int32) × (Nat → Int32) × (Nat → Int64)) :=
  Option.bind (dn_X12_isIn p1 0 1) fun q1 =>
  if q1 = true then
    gn_X12_image_0 t_names t_s p1 0 0 t_kept t_isKept t_namesKept
  else
    some (false, 0, t_kept, t_isKept, t_namesKept)
noncomputable def bd_X12_restore_0 (t_kept : Nat → Int32) (t_namesKept : Nat → Int64) (p1 : Int32) (v2 : Int32) (t_thrown : Int32) (t_s : Nat → Int32) (t_stale : Int32) (t_names : Nat → Int64) : Option (((Int32 × Int32 × (Nat → Int32) × Int32 × (Nat → Int64)) ⊕ ((Int32 × Int32 × (Nat → Int32) × Int32 × (Nat → Int64)))) ⊕ (Bool × Int32 × (Nat → Int32) × Int32 × (Nat → Int64))) :=
  if (284 : Int32) ≤ v2 then
    some (.inl (.inr ((0, t_thrown, t_s, t_stale, t_names))))
  else
    if inb (((284 : Int32) * p1) + v2) 568 = true then
    if inb v2 284 = true then
    some (.inl (.inl (v2 + 1, t_thrown, upd t_s (v2).toNatClampNeg (t_kept ((((284 : Int32) * p1) + v2)).toNatClampNeg), t_stale, t_names)))
    else none
    else none
noncomputable def bd_X12_restore_1 (t_kept : Nat → Int32) (t_namesKept : Nat → Int64) (p1 : Int32) (v2 : Int32) (t_thrown : Int32) (t_s : Nat → Int32) (t_stale : Int32) (t_names : Nat → Int64) : Option (((Int32 × Int32 × (Nat → Int32) × Int32 × (Nat → Int64)) ⊕ ((Int32 × Int32 × (Nat → Int32) × Int32 × (Nat → Int64)))) ⊕ (Bool × Int32 × (Nat → Int32) × Int32 × (Nat → Int64))) :=
  if (40 : Int32) ≤ v2 then
    some (.inr (true, t_thrown, t_s, 1, t_names))
  else
    if inb (((40 : Int32) * p1) + v2) 80 = true then
    if inb v2 80 = true then
    some (.inl (.inr ((v2 + 1, t_thrown, t_s, t_stale, vp_updL t_names (v2).toNatClampNeg (t_namesKept ((((40 : Int32) * p1) + v2)).toNatClampNeg)))))
    else none
    else none
noncomputable def st_X12_restore (t_kept : Nat → Int32) (t_namesKept : Nat → Int64) (p1 : Int32) : ((Int32 × Int32 × (Nat → Int32) × Int32 × (Nat → Int64)) ⊕ ((Int32 × Int32 × (Nat → Int32) × Int32 × (Nat → Int64)))) → Option (((Int32 × Int32 × (Nat → Int32) × Int32 × (Nat → Int64)) ⊕ ((Int32 × Int32 × (Nat → Int32) × Int32 × (Nat → Int64)))) ⊕ (Bool × Int32 × (Nat → Int32) × Int32 × (Nat → Int64))) := fun s => match s with
  | .inl (v2, t_thrown, t_s, t_stale, t_names) => bd_X12_restore_0 t_kept t_namesKept p1 v2 t_thrown t_s t_stale t_names
  | .inr ((v2, t_thrown, t_s, t_stale, t_names)) => bd_X12_restore_1 t_kept t_namesKept p1 v2 t_thrown t_s t_stale t_names
noncomputable def gn_X12_restore_0 (t_kept : Nat → Int32) (t_namesKept : Nat → Int64) (p1 : Int32) (v2 : Int32) (t_thrown : Int32) (t_s : Nat → Int32) (t_stale : Int32) (t_names : Nat → Int64) : Option (Bool × Int32 × (Nat → Int32) × Int32 × (Nat → Int64)) := lpC (st_X12_restore t_kept t_namesKept p1) (.inl (v2, t_thrown, t_s, t_stale, t_names))
noncomputable def gn_X12_restore_1 (t_kept : Nat → Int32) (t_namesKept : Nat → Int64) (p1 : Int32) (v2 : Int32) (t_thrown : Int32) (t_s : Nat → Int32) (t_stale : Int32) (t_names : Nat → Int64) : Option (Bool × Int32 × (Nat → Int32) × Int32 × (Nat → Int64)) := lpC (st_X12_restore t_kept t_namesKept p1) (.inr ((v2, t_thrown, t_s, t_stale, t_names)))
theorem gq_X12_restore_0 (t_kept : Nat → Int32) (t_namesKept : Nat → Int64) (p1 : Int32) (v2 : Int32) (t_thrown : Int32) (t_s : Nat → Int32) (t_stale : Int32) (t_names : Nat → Int64) : gn_X12_restore_0 t_kept t_namesKept p1 v2 t_thrown t_s t_stale t_names =
    if (284 : Int32) ≤ v2 then
      gn_X12_restore_1 t_kept t_namesKept p1 0 t_thrown t_s t_stale t_names
    else
      if inb (((284 : Int32) * p1) + v2) 568 = true then
      if inb v2 284 = true then
      gn_X12_restore_0 t_kept t_namesKept p1 (v2 + 1) t_thrown (upd t_s (v2).toNatClampNeg (t_kept ((((284 : Int32) * p1) + v2)).toNatClampNeg)) t_stale t_names
      else none
      else none := by
  rw [gn_X12_restore_0, lpC_eq]
  show lpO _ (bd_X12_restore_0 t_kept t_namesKept p1 v2 t_thrown t_s t_stale t_names) = _
  unfold bd_X12_restore_0
  simp only [lpO_ite, lpO_bind, lpO_none, lpO_l, lpO_r]
  try rfl
theorem gq_X12_restore_1 (t_kept : Nat → Int32) (t_namesKept : Nat → Int64) (p1 : Int32) (v2 : Int32) (t_thrown : Int32) (t_s : Nat → Int32) (t_stale : Int32) (t_names : Nat → Int64) : gn_X12_restore_1 t_kept t_namesKept p1 v2 t_thrown t_s t_stale t_names =
    if (40 : Int32) ≤ v2 then
      some (true, t_thrown, t_s, 1, t_names)
    else
      if inb (((40 : Int32) * p1) + v2) 80 = true then
      if inb v2 80 = true then
      gn_X12_restore_1 t_kept t_namesKept p1 (v2 + 1) t_thrown t_s t_stale (vp_updL t_names (v2).toNatClampNeg (t_namesKept ((((40 : Int32) * p1) + v2)).toNatClampNeg))
      else none
      else none := by
  rw [gn_X12_restore_1, lpC_eq]
  show lpO _ (bd_X12_restore_1 t_kept t_namesKept p1 v2 t_thrown t_s t_stale t_names) = _
  unfold bd_X12_restore_1
  simp only [lpO_ite, lpO_bind, lpO_none, lpO_l, lpO_r]
  try rfl
noncomputable def dn_X12_restore (t_stale : Int32) (t_isKept : Nat → Int32) (t_kept : Nat → Int32) (t_names : Nat → Int64) (t_namesKept : Nat → Int64) (t_s : Nat → Int32) (p1 : Int32) : Option (Bool × Int32 × (Nat → Int32) × Int32 × (Nat → Int64)) :=
  Option.bind (dn_X12_isIn p1 0 1) fun q1 =>
  if q1 = true then
    if inb p1 2 = true then
    if (t_isKept (p1).toNatClampNeg) = 0 then
      some (false, 0, t_s, t_stale, t_names)
    else
      gn_X12_restore_0 t_kept t_namesKept p1 0 0 t_s t_stale t_names
    else none
  else
    some (false, 0, t_s, t_stale, t_names)
noncomputable def dn_X12_count (t_length : Int32) (t_s : Nat → Int32) (p1 : Int32) : Option (Int32 × Int32) :=
  Option.bind (dn_X12_isIn p1 0 3) fun q1 =>
  if q1 = true then
    if inb p1 284 = true then
    some (t_s (p1).toNatClampNeg, 0)
    else none
  else
    if p1 = 4 then
      some (t_length, 0)
    else
      some ((-1), 0)
