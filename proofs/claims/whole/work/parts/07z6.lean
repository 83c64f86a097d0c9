noncomputable def dn_X12_thrown (t_thrown : Int32) : Option (Int32) :=
  some t_thrown
noncomputable def dn_X12_throwsIf (p1 : Int32) : Option (Bool × Int32) :=
  if p1 = 0 then
    if p1 = 0 then
      some (false, 0)
    else
      if p1 = 1 then
      some (true, 0)
      else none
  else
    if p1 = 0 then
      some (false, 1)
    else
      if p1 = 1 then
      some (true, 1)
      else none
noncomputable def bd_X12_four_0 (p1 : Int32) (v2 : Int32) (t_tape : Nat → Int32) (t_length : Int32) : Option (((Int32 × (Nat → Int32) × Int32)) ⊕ ((Nat → Int32) × Int32)) :=
  if v2 < 0 then
    some (.inr (t_tape, t_length))
  else
    if inb t_length 940 = true then
    some (.inl (v2 + (-8), upd t_tape (t_length).toNatClampNeg (vp_nar .byte ((Int32.toInt8 (p1 >>> (v2 &&& 31))).toInt32)), t_length + 1))
    else none
noncomputable def st_X12_four (p1 : Int32) : ((Int32 × (Nat → Int32) × Int32)) → Option (((Int32 × (Nat → Int32) × Int32)) ⊕ ((Nat → Int32) × Int32)) := fun s => match s with
  | (v2, t_tape, t_length) => bd_X12_four_0 p1 v2 t_tape t_length
noncomputable def gn_X12_four_0 (p1 : Int32) (v2 : Int32) (t_tape : Nat → Int32) (t_length : Int32) : Option ((Nat → Int32) × Int32) := lpC (st_X12_four p1) ((v2, t_tape, t_length))
theorem gq_X12_four_0 (p1 : Int32) (v2 : Int32) (t_tape : Nat → Int32) (t_length : Int32) : gn_X12_four_0 p1 v2 t_tape t_length =
    if v2 < 0 then
      some (t_tape, t_length)
    else
      if inb t_length 940 = true then
      gn_X12_four_0 p1 (v2 + (-8)) (upd t_tape (t_length).toNatClampNeg (vp_nar .byte ((Int32.toInt8 (p1 >>> (v2 &&& 31))).toInt32))) (t_length + 1)
      else none := by
  rw [gn_X12_four_0, lpC_eq]
  show lpO _ (bd_X12_four_0 p1 v2 t_tape t_length) = _
  unfold bd_X12_four_0
  simp only [lpO_ite, lpO_bind, lpO_none, lpO_l, lpO_r]
  try rfl
noncomputable def dn_X12_four (t_length : Int32) (t_tape : Nat → Int32) (p1 : Int32) : Option ((Nat → Int32) × Int32) :=
  gn_X12_four_0 p1 24 t_tape t_length
noncomputable def dn_X12_feed (t_length : Int32) (t_tape : Nat → Int32) (p1 : Int32) (p2 : Int32) (p3 : Int32) (p4 : Int32) (p5 : Int32) : Option (Int32 × Int32 × (Nat → Int32) × Int32) :=
  if (t_length + 20) ≤ 940 then
    Option.bind (dn_X12_four t_length t_tape p1) fun q2 =>
    Option.bind (dn_X12_four q2.2 q2.1 p2) fun q3 =>
    Option.bind (dn_X12_four q3.2 q3.1 p3) fun q4 =>
    Option.bind (dn_X12_four q4.2 q4.1 p4) fun q5 =>
    Option.bind (dn_X12_four q5.2 q5.1 p5) fun q6 =>
    some (q6.2, 0, q6.1, q6.2)
  else
    some ((-1), 0, t_tape, t_length)
noncomputable def dn_X12_end (t_length : Int32) (p1 : Int32) : Option (Bool × Int32 × Int32) :=
  if p1 < 0 then
    some (false, 0, t_length)
  else
    if p1 ≤ t_length then
      some (true, 0, p1)
    else
      some (false, 0, t_length)
noncomputable def dn_X12_taken (t_length : Int32) (p1 : Int32) : Option (Int32 × Int32 × Int32 × Int32) :=
  some (t_length, 0, 0, p1)
noncomputable def dn_X12_isIn (p1 : Int32) (p2 : Int32) (p3 : Int32) : Option (Bool) :=
  if p1 < p2 then
    some false
  else
    if p3 < p1 then
      some false
    else
      some true
noncomputable def dn_X12_has (p1 : Int32) (p2 : Int32) : Option (Bool) :=
  if ((p1 >>> (p2 &&& 31)) &&& 1) = 1 then
    some true
  else
    some false
noncomputable def bd_X12_bits_0  (v1 : Int32) (v2 : Int32) : Option (((Int32 × Int32)) ⊕ (Int32)) :=
  if v2 = 0 then
    some (.inr v1)
  else
    some (.inl (v1 + 1, v2 &&& (v2 - 1)))
noncomputable def st_X12_bits  : ((Int32 × Int32)) → Option (((Int32 × Int32)) ⊕ (Int32)) := fun s => match s with
  | (v1, v2) => bd_X12_bits_0  v1 v2
noncomputable def gn_X12_bits_0  (v1 : Int32) (v2 : Int32) : Option (Int32) := lpC (st_X12_bits ) ((v1, v2))
theorem gq_X12_bits_0  (v1 : Int32) (v2 : Int32) : gn_X12_bits_0  v1 v2 =
    if v2 = 0 then
      some v1
    else
      gn_X12_bits_0  (v1 + 1) (v2 &&& (v2 - 1)) := by
  rw [gn_X12_bits_0, lpC_eq]
  show lpO _ (bd_X12_bits_0  v1 v2) = _
  unfold bd_X12_bits_0
  simp only [lpO_ite, lpO_bind, lpO_none, lpO_l, lpO_r]
  try rfl
noncomputable def dn_X12_bits (p1 : Int32) : Option (Int32) :=
  gn_X12_bits_0  0 p1
noncomputable def dn_X12_octet (t_tape : Nat → Int32) (p1 : Int32) : Option (Int32) :=
  if inb p1 940 = true then
  some ((t_tape (p1).toNatClampNeg) &&& 255)
  else none
noncomputable def dn_X12_peek (t_size : Int32) (t_p : Int32) (t_tape : Nat → Int32) : Option (Int32) :=
  if t_size ≤ t_p then
    some (-1)
  else
    if inb t_p 940 = true then
    some ((t_tape (t_p).toNatClampNeg) &&& 255)
    else none
noncomputable def dn_X12_isSmall (p1 : Int32) : Option (Bool) :=
  if p1 < 97 then
    some false
  else
    if (122 : Int32) < p1 then
      some false
    else
      some true
noncomputable def dn_X12_isDigit (p1 : Int32) : Option (Bool) :=
  if p1 < 48 then
    some false
  else
    if (57 : Int32) < p1 then
      some false
    else
      some true
noncomputable def bd_X12_skip_0 (t_size : Int32) (t_limit : Int32) (t_tape : Nat → Int32) (t_p : Int32) (t_at : Int32) (t_span : Int32) (t_token : Int32) (t_word : Int64) (t_number : Int32) : Option (((Int32 × Int32 × Int32 × Int32 × Int64 × Int32) ⊕ ((Int32 × Int32 × Int32 × Int32 × Int64 × Int32) ⊕ ((Int32 × Int32 × Int32 × Int32 × Int32 × Int64 × Int32) ⊕ ((Int32 × Int32 × Int32 × Int32 × Int32 × Int32 × Int64 × Int32) ⊕ ((Int32 × Int32 × Int32 × Int32 × Int32 × Int32 × Int64 × Int32) ⊕ ((Int32 × Int32 × Int32 × Int32 × Int32 × Int32 × Int64 × Int32) ⊕ ((Int32 × Int32 × Int32 × Int32 × Int32 × Int32 × Int32 × Int64 × Int32) ⊕ ((Int32 × Int32 × Int32 × Int32 × Int32 × Int32 × Int64 × Int32) ⊕ ((Int32 × Int32 × Int32 × Int32 × Int32 × Int32 × Int64 × Int32) ⊕ ((Int32 × Int32 × Int32 × Int32 × Int32 × Int32 × Int64 × Int32))))))))))) ⊕ (Int32 × Int32 × Int32 × Int32 × Int64 × Int32)) :=
  Option.bind (dn_X12_peek t_size t_p t_tape) fun q7 =>
  if q7 = 32 then
    some (.inl (.inl (t_p + 1, t_at, t_span, t_token, t_word, t_number)))
  else
    Option.bind (dn_X12_peek t_size t_p t_tape) fun q9 =>
    if q9 = 10 then
      some (.inl (.inl (t_p + 1, t_at, t_span, t_token, t_word, t_number)))
    else
      if t_size ≤ t_limit then
        some (.inl (.inr (.inl (t_p, t_p, 0, t_token, t_word, t_number))))
      else
        if t_p < t_limit then
          some (.inl (.inr (.inl (t_p, t_p, 0, t_token, t_word, t_number))))
        else
          some (.inr (t_p, t_limit, 0, 4, t_word, t_number))
noncomputable def bd_X12_skip_1 (t_size : Int32) (t_limit : Int32) (t_tape : Nat → Int32) (t_p : Int32) (t_at : Int32) (t_span : Int32) (t_token : Int32) (t_word : Int64) (t_number : Int32) : Option (((Int32 × Int32 × Int32 × Int32 × Int64 × Int32) ⊕ ((Int32 × Int32 × Int32 × Int32 × Int64 × Int32) ⊕ ((Int32 × Int32 × Int32 × Int32 × Int32 × Int64 × Int32) ⊕ ((Int32 × Int32 × Int32 × Int32 × Int32 × Int32 × Int64 × Int32) ⊕ ((Int32 × Int32 × Int32 × Int32 × Int32 × Int32 × Int64 × Int32) ⊕ ((Int32 × Int32 × Int32 × Int32 × Int32 × Int32 × Int64 × Int32) ⊕ ((Int32 × Int32 × Int32 × Int32 × Int32 × Int32 × Int32 × Int64 × Int32) ⊕ ((Int32 × Int32 × Int32 × Int32 × Int32 × Int32 × Int64 × Int32) ⊕ ((Int32 × Int32 × Int32 × Int32 × Int32 × Int32 × Int64 × Int32) ⊕ ((Int32 × Int32 × Int32 × Int32 × Int32 × Int32 × Int64 × Int32))))))))))) ⊕ (Int32 × Int32 × Int32 × Int32 × Int64 × Int32)) :=
  Option.bind (dn_X12_peek t_size t_p t_tape) fun q13 =>
  if 0 ≤ q13 then
    Option.bind (dn_X12_isSmall q13) fun q15 =>
    if q15 = true then
      some (.inl (.inr (.inr (.inl (q13, t_p, t_at, t_span, t_token, t_word, t_number)))))
    else
      Option.bind (dn_X12_isDigit q13) fun q17 =>
      if q17 = true then
        some (.inl (.inr (.inr (.inl (q13, t_p, t_at, t_span, t_token, t_word, t_number)))))
      else
        if q13 = 59 then
          some (.inl (.inr (.inr (.inr (.inl (q13, 3, t_p, t_at, t_span, t_token, t_word, t_number))))))
        else
          some (.inl (.inr (.inr (.inr (.inl (q13, 4, t_p, t_at, t_span, t_token, t_word, t_number))))))
  else
    some (.inr (t_p, t_at, t_span, 0, t_word, t_number))
noncomputable def bd_X12_skip_2 (t_size : Int32) (t_limit : Int32) (t_tape : Nat → Int32) (v1 : Int32) (t_p : Int32) (t_at : Int32) (t_span : Int32) (t_token : Int32) (t_word : Int64) (t_number : Int32) : Option (((Int32 × Int32 × Int32 × Int32 × Int64 × Int32) ⊕ ((Int32 × Int32 × Int32 × Int32 × Int64 × Int32) ⊕ ((Int32 × Int32 × Int32 × Int32 × Int32 × Int64 × Int32) ⊕ ((Int32 × Int32 × Int32 × Int32 × Int32 × Int32 × Int64 × Int32) ⊕ ((Int32 × Int32 × Int32 × Int32 × Int32 × Int32 × Int64 × Int32) ⊕ ((Int32 × Int32 × Int32 × Int32 × Int32 × Int32 × Int64 × Int32) ⊕ ((Int32 × Int32 × Int32 × Int32 × Int32 × Int32 × Int32 × Int64 × Int32) ⊕ ((Int32 × Int32 × Int32 × Int32 × Int32 × Int32 × Int64 × Int32) ⊕ ((Int32 × Int32 × Int32 × Int32 × Int32 × Int32 × Int64 × Int32) ⊕ ((Int32 × Int32 × Int32 × Int32 × Int32 × Int32 × Int64 × Int32))))))))))) ⊕ (Int32 × Int32 × Int32 × Int32 × Int64 × Int32)) :=
  Option.bind (dn_X12_isSmall v1) fun q20 =>
  some (.inl (.inr (.inr (.inr (.inr (.inl (b2i q20, 1, t_p, t_at, t_span, t_token, 0, 0)))))))
noncomputable def bd_X12_skip_3 (t_size : Int32) (t_limit : Int32) (t_tape : Nat → Int32) (v1 : Int32) (k1 : Int32) (t_p : Int32) (t_at : Int32) (t_span : Int32) (t_token : Int32) (t_word : Int64) (t_number : Int32) : Option (((Int32 × Int32 × Int32 × Int32 × Int64 × Int32) ⊕ ((Int32 × Int32 × Int32 × Int32 × Int64 × Int32) ⊕ ((Int32 × Int32 × Int32 × Int32 × Int32 × Int64 × Int32) ⊕ ((Int32 × Int32 × Int32 × Int32 × Int32 × Int32 × Int64 × Int32) ⊕ ((Int32 × Int32 × Int32 × Int32 × Int32 × Int32 × Int64 × Int32) ⊕ ((Int32 × Int32 × Int32 × Int32 × Int32 × Int32 × Int64 × Int32) ⊕ ((Int32 × Int32 × Int32 × Int32 × Int32 × Int32 × Int32 × Int64 × Int32) ⊕ ((Int32 × Int32 × Int32 × Int32 × Int32 × Int32 × Int64 × Int32) ⊕ ((Int32 × Int32 × Int32 × Int32 × Int32 × Int32 × Int64 × Int32) ⊕ ((Int32 × Int32 × Int32 × Int32 × Int32 × Int32 × Int64 × Int32))))))))))) ⊕ (Int32 × Int32 × Int32 × Int32 × Int64 × Int32)) :=
  some (.inr (t_p + 1, t_at, t_span, k1, t_word, v1))
noncomputable def bd_X12_skip_4 (t_size : Int32) (t_limit : Int32) (t_tape : Nat → Int32) (v2 : Int32) (v3 : Int32) (t_p : Int32) (t_at : Int32) (t_span : Int32) (t_token : Int32) (t_word : Int64) (t_number : Int32) : Option (((Int32 × Int32 × Int32 × Int32 × Int64 × Int32) ⊕ ((Int32 × Int32 × Int32 × Int32 × Int64 × Int32) ⊕ ((Int32 × Int32 × Int32 × Int32 × Int32 × Int64 × Int32) ⊕ ((Int32 × Int32 × Int32 × Int32 × Int32 × Int32 × Int64 × Int32) ⊕ ((Int32 × Int32 × Int32 × Int32 × Int32 × Int32 × Int64 × Int32) ⊕ ((Int32 × Int32 × Int32 × Int32 × Int32 × Int32 × Int64 × Int32) ⊕ ((Int32 × Int32 × Int32 × Int32 × Int32 × Int32 × Int32 × Int64 × Int32) ⊕ ((Int32 × Int32 × Int32 × Int32 × Int32 × Int32 × Int64 × Int32) ⊕ ((Int32 × Int32 × Int32 × Int32 × Int32 × Int32 × Int64 × Int32) ⊕ ((Int32 × Int32 × Int32 × Int32 × Int32 × Int32 × Int64 × Int32))))))))))) ⊕ (Int32 × Int32 × Int32 × Int32 × Int64 × Int32)) :=
  Option.bind (dn_X12_peek t_size t_p t_tape) fun q21 =>
  Option.bind (dn_X12_isSmall q21) fun q22 =>
  if q22 = true then
    some (.inl (.inr (.inr (.inr (.inr (.inr (.inl (v2, v3, t_p, t_at, t_span, t_token, t_word, t_number))))))))
  else
    Option.bind (dn_X12_peek t_size t_p t_tape) fun q24 =>
    Option.bind (dn_X12_isDigit q24) fun q25 =>
    if q25 = true then
      some (.inl (.inr (.inr (.inr (.inr (.inr (.inl (v2, v3, t_p, t_at, t_span, t_token, t_word, t_number))))))))
    else
      if v3 = 0 then
        some (.inr (t_p, t_at, t_span, 4, t_word, t_number))
      else
        if v2 = 0 then
          some (.inl (.inr (.inr (.inr (.inr (.inr (.inr (.inl (v2, t_span, 2, t_p, t_at, t_span, t_token, t_word, t_number)))))))))
        else
          some (.inl (.inr (.inr (.inr (.inr (.inr (.inr (.inl (v2, t_span, 7, t_p, t_at, t_span, t_token, t_word, t_number)))))))))
noncomputable def bd_X12_skip_5 (t_size : Int32) (t_limit : Int32) (t_tape : Nat → Int32) (v2 : Int32) (v3 : Int32) (t_p : Int32) (t_at : Int32) (t_span : Int32) (t_token : Int32) (t_word : Int64) (t_number : Int32) : Option (((Int32 × Int32 × Int32 × Int32 × Int64 × Int32) ⊕ ((Int32 × Int32 × Int32 × Int32 × Int64 × Int32) ⊕ ((Int32 × Int32 × Int32 × Int32 × Int32 × Int64 × Int32) ⊕ ((Int32 × Int32 × Int32 × Int32 × Int32 × Int32 × Int64 × Int32) ⊕ ((Int32 × Int32 × Int32 × Int32 × Int32 × Int32 × Int64 × Int32) ⊕ ((Int32 × Int32 × Int32 × Int32 × Int32 × Int32 × Int64 × Int32) ⊕ ((Int32 × Int32 × Int32 × Int32 × Int32 × Int32 × Int32 × Int64 × Int32) ⊕ ((Int32 × Int32 × Int32 × Int32 × Int32 × Int32 × Int64 × Int32) ⊕ ((Int32 × Int32 × Int32 × Int32 × Int32 × Int32 × Int64 × Int32) ⊕ ((Int32 × Int32 × Int32 × Int32 × Int32 × Int32 × Int64 × Int32))))))))))) ⊕ (Int32 × Int32 × Int32 × Int32 × Int64 × Int32)) :=
  if v3 = 0 then
    some (.inl (.inr (.inr (.inr (.inr (.inr (.inr (.inr (.inl (v2, 0, t_p, t_at, t_span, t_token, t_word, t_number))))))))))
  else
    Option.bind (dn_X12_peek t_size t_p t_tape) fun q30 =>
    Option.bind (dn_X12_isSmall q30) fun q31 =>
    if (b2i q31) = v2 then
      some (.inl (.inr (.inr (.inr (.inr (.inr (.inr (.inr (.inl (v2, 1, t_p, t_at, t_span, t_token, t_word, t_number))))))))))
    else
      some (.inl (.inr (.inr (.inr (.inr (.inr (.inr (.inr (.inl (v2, 0, t_p, t_at, t_span, t_token, t_word, t_number))))))))))
noncomputable def bd_X12_skip_6 (t_size : Int32) (t_limit : Int32) (t_tape : Nat → Int32) (v2 : Int32) (k1 : Int32) (k2 : Int32) (t_p : Int32) (t_at : Int32) (t_span : Int32) (t_token : Int32) (t_word : Int64) (t_number : Int32) : Option (((Int32 × Int32 × Int32 × Int32 × Int64 × Int32) ⊕ ((Int32 × Int32 × Int32 × Int32 × Int64 × Int32) ⊕ ((Int32 × Int32 × Int32 × Int32 × Int32 × Int64 × Int32) ⊕ ((Int32 × Int32 × Int32 × Int32 × Int32 × Int32 × Int64 × Int32) ⊕ ((Int32 × Int32 × Int32 × Int32 × Int32 × Int32 × Int64 × Int32) ⊕ ((Int32 × Int32 × Int32 × Int32 × Int32 × Int32 × Int64 × Int32) ⊕ ((Int32 × Int32 × Int32 × Int32 × Int32 × Int32 × Int32 × Int64 × Int32) ⊕ ((Int32 × Int32 × Int32 × Int32 × Int32 × Int32 × Int64 × Int32) ⊕ ((Int32 × Int32 × Int32 × Int32 × Int32 × Int32 × Int64 × Int32) ⊕ ((Int32 × Int32 × Int32 × Int32 × Int32 × Int32 × Int64 × Int32))))))))))) ⊕ (Int32 × Int32 × Int32 × Int32 × Int64 × Int32)) :=
  if k1 ≤ k2 then
    if v2 = 0 then
      some (.inr (t_p, t_at, t_span, 2, t_word, t_number))
    else
      some (.inr (t_p, t_at, t_span, 1, t_word, t_number))
  else
    some (.inr (t_p, t_at, t_span, 4, t_word, t_number))
noncomputable def bd_X12_skip_7 (t_size : Int32) (t_limit : Int32) (t_tape : Nat → Int32) (v2 : Int32) (k0 : Int32) (t_p : Int32) (t_at : Int32) (t_span : Int32) (t_token : Int32) (t_word : Int64) (t_number : Int32) : Option (((Int32 × Int32 × Int32 × Int32 × Int64 × Int32) ⊕ ((Int32 × Int32 × Int32 × Int32 × Int64 × Int32) ⊕ ((Int32 × Int32 × Int32 × Int32 × Int32 × Int64 × Int32) ⊕ ((Int32 × Int32 × Int32 × Int32 × Int32 × Int32 × Int64 × Int32) ⊕ ((Int32 × Int32 × Int32 × Int32 × Int32 × Int32 × Int64 × Int32) ⊕ ((Int32 × Int32 × Int32 × Int32 × Int32 × Int32 × Int64 × Int32) ⊕ ((Int32 × Int32 × Int32 × Int32 × Int32 × Int32 × Int32 × Int64 × Int32) ⊕ ((Int32 × Int32 × Int32 × Int32 × Int32 × Int32 × Int64 × Int32) ⊕ ((Int32 × Int32 × Int32 × Int32 × Int32 × Int32 × Int64 × Int32) ⊕ ((Int32 × Int32 × Int32 × Int32 × Int32 × Int32 × Int64 × Int32))))))))))) ⊕ (Int32 × Int32 × Int32 × Int32 × Int64 × Int32)) :=
  if (7 : Int32) ≤ t_span then
    some (.inl (.inr (.inr (.inr (.inr (.inr (.inr (.inr (.inr (.inl (v2, k0, t_p, t_at, t_span, t_token, t_word, t_number)))))))))))
  else
    Option.bind (dn_X12_peek t_size t_p t_tape) fun q36 =>
    some (.inl (.inr (.inr (.inr (.inr (.inr (.inr (.inr (.inr (.inl (v2, k0, t_p, t_at, t_span, t_token, (t_word <<< (Int32.toInt64 8 &&& 63)) ||| (Int32.toInt64 q36), t_number)))))))))))
noncomputable def bd_X12_skip_8 (t_size : Int32) (t_limit : Int32) (t_tape : Nat → Int32) (v2 : Int32) (v3 : Int32) (t_p : Int32) (t_at : Int32) (t_span : Int32) (t_token : Int32) (t_word : Int64) (t_number : Int32) : Option (((Int32 × Int32 × Int32 × Int32 × Int64 × Int32) ⊕ ((Int32 × Int32 × Int32 × Int32 × Int64 × Int32) ⊕ ((Int32 × Int32 × Int32 × Int32 × Int32 × Int64 × Int32) ⊕ ((Int32 × Int32 × Int32 × Int32 × Int32 × Int32 × Int64 × Int32) ⊕ ((Int32 × Int32 × Int32 × Int32 × Int32 × Int32 × Int64 × Int32) ⊕ ((Int32 × Int32 × Int32 × Int32 × Int32 × Int32 × Int64 × Int32) ⊕ ((Int32 × Int32 × Int32 × Int32 × Int32 × Int32 × Int32 × Int64 × Int32) ⊕ ((Int32 × Int32 × Int32 × Int32 × Int32 × Int32 × Int64 × Int32) ⊕ ((Int32 × Int32 × Int32 × Int32 × Int32 × Int32 × Int64 × Int32) ⊕ ((Int32 × Int32 × Int32 × Int32 × Int32 × Int32 × Int64 × Int32))))))))))) ⊕ (Int32 × Int32 × Int32 × Int32 × Int64 × Int32)) :=
  if (2 : Int32) ≤ t_span then
    some (.inl (.inr (.inr (.inr (.inr (.inr (.inr (.inr (.inr (.inr ((v2, v3, t_p, t_at, t_span, t_token, t_word, t_number))))))))))))
  else
    Option.bind (dn_X12_peek t_size t_p t_tape) fun q38 =>
    some (.inl (.inr (.inr (.inr (.inr (.inr (.inr (.inr (.inr (.inr ((v2, v3, t_p, t_at, t_span, t_token, t_word, (((10 : Int32) * t_number) + q38) - 48))))))))))))
noncomputable def bd_X12_skip_9 (t_size : Int32) (t_limit : Int32) (t_tape : Nat → Int32) (v2 : Int32) (v3 : Int32) (t_p : Int32) (t_at : Int32) (t_span : Int32) (t_token : Int32) (t_word : Int64) (t_number : Int32) : Option (((Int32 × Int32 × Int32 × Int32 × Int64 × Int32) ⊕ ((Int32 × Int32 × Int32 × Int32 × Int64 × Int32) ⊕ ((Int32 × Int32 × Int32 × Int32 × Int32 × Int64 × Int32) ⊕ ((Int32 × Int32 × Int32 × Int32 × Int32 × Int32 × Int64 × Int32) ⊕ ((Int32 × Int32 × Int32 × Int32 × Int32 × Int32 × Int64 × Int32) ⊕ ((Int32 × Int32 × Int32 × Int32 × Int32 × Int32 × Int64 × Int32) ⊕ ((Int32 × Int32 × Int32 × Int32 × Int32 × Int32 × Int32 × Int64 × Int32) ⊕ ((Int32 × Int32 × Int32 × Int32 × Int32 × Int32 × Int64 × Int32) ⊕ ((Int32 × Int32 × Int32 × Int32 × Int32 × Int32 × Int64 × Int32) ⊕ ((Int32 × Int32 × Int32 × Int32 × Int32 × Int32 × Int64 × Int32))))))))))) ⊕ (Int32 × Int32 × Int32 × Int32 × Int64 × Int32)) :=
  some (.inl (.inr (.inr (.inr (.inr (.inl (v2, v3, t_p + 1, t_at, t_span + 1, t_token, t_word, t_number)))))))
noncomputable def st_X12_skip (t_size : Int32) (t_limit : Int32) (t_tape : Nat → Int32) : ((Int32 × Int32 × Int32 × Int32 × Int64 × Int32) ⊕ ((Int32 × Int32 × Int32 × Int32 × Int64 × Int32) ⊕ ((Int32 × Int32 × Int32 × Int32 × Int32 × Int64 × Int32) ⊕ ((Int32 × Int32 × Int32 × Int32 × Int32 × Int32 × Int64 × Int32) ⊕ ((Int32 × Int32 × Int32 × Int32 × Int32 × Int32 × Int64 × Int32) ⊕ ((Int32 × Int32 × Int32 × Int32 × Int32 × Int32 × Int64 × Int32) ⊕ ((Int32 × Int32 × Int32 × Int32 × Int32 × Int32 × Int32 × Int64 × Int32) ⊕ ((Int32 × Int32 × Int32 × Int32 × Int32 × Int32 × Int64 × Int32) ⊕ ((Int32 × Int32 × Int32 × Int32 × Int32 × Int32 × Int64 × Int32) ⊕ ((Int32 × Int32 × Int32 × Int32 × Int32 × Int32 × Int64 × Int32))))))))))) → Option (((Int32 × Int32 × Int32 × Int32 × Int64 × Int32) ⊕ ((Int32 × Int32 × Int32 × Int32 × Int64 × Int32) ⊕ ((Int32 × Int32 × Int32 × Int32 × Int32 × Int64 × Int32) ⊕ ((Int32 × Int32 × Int32 × Int32 × Int32 × Int32 × Int64 × Int32) ⊕ ((Int32 × Int32 × Int32 × Int32 × Int32 × Int32 × Int64 × Int32) ⊕ ((Int32 × Int32 × Int32 × Int32 × Int32 × Int32 × Int64 × Int32) ⊕ ((Int32 × Int32 × Int32 × Int32 × Int32 × Int32 × Int32 × Int64 × Int32) ⊕ ((Int32 × Int32 × Int32 × Int32 × Int32 × Int32 × Int64 × Int32) ⊕ ((Int32 × Int32 × Int32 × Int32 × Int32 × Int32 × Int64 × Int32) ⊕ ((Int32 × Int32 × Int32 × Int32 × Int32 × Int32 × Int64 × Int32))))))))))) ⊕ (Int32 × Int32 × Int32 × Int32 × Int64 × Int32)) := fun s => match s with
  | .inl (t_p, t_at, t_span, t_token, t_word, t_number) => bd_X12_skip_0 t_size t_limit t_tape t_p t_at t_span t_token t_word t_number
  | .inr (.inl (t_p, t_at, t_span, t_token, t_word, t_number)) => bd_X12_skip_1 t_size t_limit t_tape t_p t_at t_span t_token t_word t_number
  | .inr (.inr (.inl (v1, t_p, t_at, t_span, t_token, t_word, t_number))) => bd_X12_skip_2 t_size t_limit t_tape v1 t_p t_at t_span t_token t_word t_number
  | .inr (.inr (.inr (.inl (v1, k1, t_p, t_at, t_span, t_token, t_word, t_number)))) => bd_X12_skip_3 t_size t_limit t_tape v1 k1 t_p t_at t_span t_token t_word t_number
  | .inr (.inr (.inr (.inr (.inl (v2, v3, t_p, t_at, t_span, t_token, t_word, t_number))))) => bd_X12_skip_4 t_size t_limit t_tape v2 v3 t_p t_at t_span t_token t_word t_number
  | .inr (.inr (.inr (.inr (.inr (.inl (v2, v3, t_p, t_at, t_span, t_token, t_word, t_number)))))) => bd_X12_skip_5 t_size t_limit t_tape v2 v3 t_p t_at t_span t_token t_word t_number
  | .inr (.inr (.inr (.inr (.inr (.inr (.inl (v2, k1, k2, t_p, t_at, t_span, t_token, t_word, t_number))))))) => bd_X12_skip_6 t_size t_limit t_tape v2 k1 k2 t_p t_at t_span t_token t_word t_number
  | .inr (.inr (.inr (.inr (.inr (.inr (.inr (.inl (v2, k0, t_p, t_at, t_span, t_token, t_word, t_number)))))))) => bd_X12_skip_7 t_size t_limit t_tape v2 k0 t_p t_at t_span t_token t_word t_number
  | .inr (.inr (.inr (.inr (.inr (.inr (.inr (.inr (.inl (v2, v3, t_p, t_at, t_span, t_token, t_word, t_number))))))))) => bd_X12_skip_8 t_size t_limit t_tape v2 v3 t_p t_at t_span t_token t_word t_number
  | .inr (.inr (.inr (.inr (.inr (.inr (.inr (.inr (.inr ((v2, v3, t_p, t_at, t_span, t_token, t_word, t_number)))))))))) => bd_X12_skip_9 t_size t_limit t_tape v2 v3 t_p t_at t_span t_token t_word t_number
noncomputable def gn_X12_skip_0 (t_size : Int32) (t_limit : Int32) (t_tape : Nat → Int32) (t_p : Int32) (t_at : Int32) (t_span : Int32) (t_token : Int32) (t_word : Int64) (t_number : Int32) : Option (Int32 × Int32 × Int32 × Int32 × Int64 × Int32) := lpC (st_X12_skip t_size t_limit t_tape) (.inl (t_p, t_at, t_span, t_token, t_word, t_number))
noncomputable def gn_X12_skip_1 (t_size : Int32) (t_limit : Int32) (t_tape : Nat → Int32) (t_p : Int32) (t_at : Int32) (t_span : Int32) (t_token : Int32) (t_word : Int64) (t_number : Int32) : Option (Int32 × Int32 × Int32 × Int32 × Int64 × Int32) := lpC (st_X12_skip t_size t_limit t_tape) (.inr (.inl (t_p, t_at, t_span, t_token, t_word, t_number)))
noncomputable def gn_X12_skip_2 (t_size : Int32) (t_limit : Int32) (t_tape : Nat → Int32) (v1 : Int32) (t_p : Int32) (t_at : Int32) (t_span : Int32) (t_token : Int32) (t_word : Int64) (t_number : Int32) : Option (Int32 × Int32 × Int32 × Int32 × Int64 × Int32) := lpC (st_X12_skip t_size t_limit t_tape) (.inr (.inr (.inl (v1, t_p, t_at, t_span, t_token, t_word, t_number))))
noncomputable def gn_X12_skip_3 (t_size : Int32) (t_limit : Int32) (t_tape : Nat → Int32) (v1 : Int32) (k1 : Int32) (t_p : Int32) (t_at : Int32) (t_span : Int32) (t_token : Int32) (t_word : Int64) (t_number : Int32) : Option (Int32 × Int32 × Int32 × Int32 × Int64 × Int32) := lpC (st_X12_skip t_size t_limit t_tape) (.inr (.inr (.inr (.inl (v1, k1, t_p, t_at, t_span, t_token, t_word, t_number)))))
noncomputable def gn_X12_skip_4 (t_size : Int32) (t_limit : Int32) (t_tape : Nat → Int32) (v2 : Int32) (v3 : Int32) (t_p : Int32) (t_at : Int32) (t_span : Int32) (t_token : Int32) (t_word : Int64) (t_number : Int32) : Option (Int32 × Int32 × Int32 × Int32 × Int64 × Int32) := lpC (st_X12_skip t_size t_limit t_tape) (.inr (.inr (.inr (.inr (.inl (v2, v3, t_p, t_at, t_span, t_token, t_word, t_number))))))
noncomputable def gn_X12_skip_5 (t_size : Int32) (t_limit : Int32) (t_tape : Nat → Int32) (v2 : Int32) (v3 : Int32) (t_p : Int32) (t_at : Int32) (t_span : Int32) (t_token : Int32) (t_word : Int64) (t_number : Int32) : Option (Int32 × Int32 × Int32 × Int32 × Int64 × Int32) := lpC (st_X12_skip t_size t_limit t_tape) (.inr (.inr (.inr (.inr (.inr (.inl (v2, v3, t_p, t_at, t_span, t_token, t_word, t_number)))))))
noncomputable def gn_X12_skip_6 (t_size : Int32) (t_limit : Int32) (t_tape : Nat → Int32) (v2 : Int32) (k1 : Int32) (k2 : Int32) (t_p : Int32) (t_at : Int32) (t_span : Int32) (t_token : Int32) (t_word : Int64) (t_number : Int32) : Option (Int32 × Int32 × Int32 × Int32 × Int64 × Int32) := lpC (st_X12_skip t_size t_limit t_tape) (.inr (.inr (.inr (.inr (.inr (.inr (.inl (v2, k1, k2, t_p, t_at, t_span, t_token, t_word, t_number))))))))
noncomputable def gn_X12_skip_7 (t_size : Int32) (t_limit : Int32) (t_tape : Nat → Int32) (v2 : Int32) (k0 : Int32) (t_p : Int32) (t_at : Int32) (t_span : Int32) (t_token : Int32) (t_word : Int64) (t_number : Int32) : Option (Int32 × Int32 × Int32 × Int32 × Int64 × Int32) := lpC (st_X12_skip t_size t_limit t_tape) (.inr (.inr (.inr (.inr (.inr (.inr (.inr (.inl (v2, k0, t_p, t_at, t_span, t_token, t_word, t_number)))))))))
noncomputable def gn_X12_skip_8 (t_size : Int32) (t_limit : Int32) (t_tape : Nat → Int32) (v2 : Int32) (v3 : Int32) (t_p : Int32) (t_at : Int32) (t_span : Int32) (t_token : Int32) (t_word : Int64) (t_number : Int32) : Option (Int32 × Int32 × Int32 × Int32 × Int64 × Int32) := lpC (st_X12_skip t_size t_limit t_tape) (.inr (.inr (.inr (.inr (.inr (.inr (.inr (.inr (.inl (v2, v3, t_p, t_at, t_span, t_token, t_word, t_number))))))))))
noncomputable def gn_X12_skip_9 (t_size : Int32) (t_limit : Int32) (t_tape : Nat → Int32) (v2 : Int32) (v3 : Int32) (t_p : Int32) (t_at : Int32) (t_span : Int32) (t_token : Int32) (t_word : Int64) (t_number : Int32) : Option (Int32 × Int32 × Int32 × Int32 × Int64 × Int32) := lpC (st_X12_skip t_size t_limit t_tape) (.inr (.inr (.inr (.inr (.inr (.inr (.inr (.inr (.inr ((v2, v3, t_p, t_at, t_span, t_token, t_word, t_number)))))))))))
theorem gq_X12_skip_0 (t_size : Int32) (t_limit : Int32) (t_tape : Nat → Int32) (t_p : Int32) (t_at : Int32) (t_span : Int32) (t_token : Int32) (t_word : Int64) (t_number : Int32) : gn_X12_skip_0 t_size t_limit t_tape t_p t_at t_span t_token t_word t_number =
    Option.bind (dn_X12_peek t_size t_p t_tape) fun q7 =>
    if q7 = 32 then
      gn_X12_skip_0 t_size t_limit t_tape (t_p + 1) t_at t_span t_token t_word t_number
    else
      Option.bind (dn_X12_peek t_size t_p t_tape) fun q9 =>
      if q9 = 10 then
        gn_X12_skip_0 t_size t_limit t_tape (t_p + 1) t_at t_span t_token t_word t_number
      else
        if t_size ≤ t_limit then
          gn_X12_skip_1 t_size t_limit t_tape t_p t_p 0 t_token t_word t_number
        else
          if t_p < t_limit then
            gn_X12_skip_1 t_size t_limit t_tape t_p t_p 0 t_token t_word t_number
          else
            some (t_p, t_limit, 0, 4, t_word, t_number) := by
  rw [gn_X12_skip_0, lpC_eq]
  show lpO _ (bd_X12_skip_0 t_size t_limit t_tape t_p t_at t_span t_token t_word t_number) = _
  unfold bd_X12_skip_0
  simp only [lpO_ite, lpO_bind, lpO_none, lpO_l, lpO_r]
  try rfl
theorem gq_X12_skip_1 (t_size : Int32) (t_limit : Int32) (t_tape : Nat → Int32) (t_p : Int32) (t_at : Int32) (t_span : Int32) (t_token : Int32) (t_word : Int64) (t_number : Int32) : gn_X12_skip_1 t_size t_limit t_tape t_p t_at t_span t_token t_word t_number =
    Option.bind (dn_X12_peek t_size t_p t_tape) fun q13 =>
    if 0 ≤ q13 then
      Option.bind (dn_X12_isSmall q13) fun q15 =>
      if q15 = true then
        gn_X12_skip_2 t_size t_limit t_tape q13 t_p t_at t_span t_token t_word t_number
      else
        Option.bind (dn_X12_isDigit q13) fun q17 =>
        if q17 = true then
          gn_X12_skip_2 t_size t_limit t_tape q13 t_p t_at t_span t_token t_word t_number
        else
          if q13 = 59 then
            gn_X12_skip_3 t_size t_limit t_tape q13 3 t_p t_at t_span t_token t_word t_number
          else
            gn_X12_skip_3 t_size t_limit t_tape q13 4 t_p t_at t_span t_token t_word t_number
    else
      some (t_p, t_at, t_span, 0, t_word, t_number) := by
  rw [gn_X12_skip_1, lpC_eq]
  show lpO _ (bd_X12_skip_1 t_size t_limit t_tape t_p t_at t_span t_token t_word t_number) = _
  unfold bd_X12_skip_1
  simp only [lpO_ite, lpO_bind, lpO_none, lpO_l, lpO_r]
  try rfl
theorem gq_X12_skip_2 (t_size : Int32) (t_limit : Int32) (t_tape : Nat → Int32) (v1 : Int32) (t_p : Int32) (t_at : Int32) (t_span : Int32) (t_token : Int32) (t_word : Int64) (t_number : Int32) : gn_X12_skip_2 t_size t_limit t_tape v1 t_p t_at t_span t_token t_word t_number =
    Option.bind (dn_X12_isSmall v1) fun q20 =>
    gn_X12_skip_4 t_size t_limit t_tape (b2i q20) 1 t_p t_at t_span t_token 0 0 := by
  rw [gn_X12_skip_2, lpC_eq]
  show lpO _ (bd_X12_skip_2 t_size t_limit t_tape v1 t_p t_at t_span t_token t_word t_number) = _
  unfold bd_X12_skip_2
  simp only [lpO_ite, lpO_bind, lpO_none, lpO_l, lpO_r]
  try rfl
theorem gq_X12_skip_3 (t_size : Int32) (t_limit : Int32) (t_tape : Nat → Int32) (v1 : Int32) (k1 : Int32) (t_p : Int32) (t_at : Int32) (t_span : Int32) (t_token : Int32) (t_word : Int64) (t_number : Int32) : gn_X12_skip_3 t_size t_limit t_tape v1 k1 t_p t_at t_span t_token t_word t_number =
    some (t_p + 1, t_at, t_span, k1, t_word, v1) := by
  rw [gn_X12_skip_3, lpC_eq]
  show lpO _ (bd_X12_skip_3 t_size t_limit t_tape v1 k1 t_p t_at t_span t_token t_word t_number) = _
  unfold bd_X12_skip_3
  simp only [lpO_ite, lpO_bind, lpO_none, lpO_l, lpO_r]
  try rfl
theorem gq_X12_skip_4 (t_size : Int32) (t_limit : Int32) (t_tape : Nat → Int32) (v2 : Int32) (v3 : Int32) (t_p : Int32) (t_at : Int32) (t_span : Int32) (t_token : Int32) (t_word : Int64) (t_number : Int32) : gn_X12_skip_4 t_size t_limit t_tape v2 v3 t_p t_at t_span t_token t_word t_number =
    Option.bind (dn_X12_peek t_size t_p t_tape) fun q21 =>
    Option.bind (dn_X12_isSmall q21) fun q22 =>
    if q22 = true then
      gn_X12_skip_5 t_size t_limit t_tape v2 v3 t_p t_at t_span t_token t_word t_number
    else
      Option.bind (dn_X12_peek t_size t_p t_tape) fun q24 =>
      Option.bind (dn_X12_isDigit q24) fun q25 =>
      if q25 = true then
        gn_X12_skip_5 t_size t_limit t_tape v2 v3 t_p t_at t_span t_token t_word t_number
      else
        if v3 = 0 then
          some (t_p, t_at, t_span, 4, t_word, t_number)
        else
          if v2 = 0 then
            gn_X12_skip_6 t_size t_limit t_tape v2 t_span 2 t_p t_at t_span t_token t_word t_number
          else
            gn_X12_skip_6 t_size t_limit t_tape v2 t_span 7 t_p t_at t_span t_token t_word t_number := by
  rw [gn_X12_skip_4, lpC_eq]
  show lpO _ (bd_X12_skip_4 t_size t_limit t_tape v2 v3 t_p t_at t_span t_token t_word t_number) = _
  unfold bd_X12_skip_4
  simp only [lpO_ite, lpO_bind, lpO_none, lpO_l, lpO_r]
  try rfl
theorem gq_X12_skip_5 (t_size : Int32) (t_limit : Int32) (t_tape : Nat → Int32) (v2 : Int32) (v3 : Int32) (t_p : Int32) (t_at : Int32) (t_span : Int32) (t_token : Int32) (t_word : Int64) (t_number : Int32) : gn_X12_skip_5 t_size t_limit t_tape v2 v3 t_p t_at t_span t_token t_word t_number =
    if v3 = 0 then
      gn_X12_skip_7 t_size t_limit t_tape v2 0 t_p t_at t_span t_token t_word t_number
    else
      Option.bind (dn_X12_peek t_size t_p t_tape) fun q30 =>
      Option.bind (dn_X12_isSmall q30) fun q31 =>
      if (b2i q31) = v2 then
        gn_X12_skip_7 t_size t_limit t_tape v2 1 t_p t_at t_span t_token t_word t_number
      else
        gn_X12_skip_7 t_size t_limit t_tape v2 0 t_p t_at t_span t_token t_word t_number := by
  rw [gn_X12_skip_5, lpC_eq]
  show lpO _ (bd_X12_skip_5 t_size t_limit t_tape v2 v3 t_p t_at t_span t_token t_word t_number) = _
  unfold bd_X12_skip_5
  simp only [lpO_ite, lpO_bind, lpO_none, lpO_l, lpO_r]
  try rfl
theorem gq_X12_skip_6 (t_size : Int32) (t_limit : Int32) (t_tape : Nat → Int32) (v2 : Int32) (k1 : Int32) (k2 : Int32) (t_p : Int32) (t_at : Int32) (t_span : Int32) (t_token : Int32) (t_word : Int64) (t_number : Int32) : gn_X12_skip_6 t_size t_limit t_tape v2 k1 k2 t_p t_at t_span t_token t_word t_number =
    if k1 ≤ k2 then
      if v2 = 0 then
        some (t_p, t_at, t_span, 2, t_word, t_number)
      else
        some (t_p, t_at, t_span, 1, t_word, t_number)
    else
      some (t_p, t_at, t_span, 4, t_word, t_number) := by
  rw [gn_X12_skip_6, lpC_eq]
  show lpO _ (bd_X12_skip_6 t_size t_limit t_tape v2 k1 k2 t_p t_at t_span t_token t_word t_number) = _
  unfold bd_X12_skip_6
  simp only [lpO_ite, lpO_bind, lpO_none, lpO_l, lpO_r]
  try rfl
theorem gq_X12_skip_7 (t_size : Int32) (t_limit : Int32) (t_tape : Nat → Int32) (v2 : Int32) (k0 : Int32) (t_p : Int32) (t_at : Int32) (t_span : Int32) (t_token : Int32) (t_word : Int64) (t_number : Int32) : gn_X12_skip_7 t_size t_limit t_tape v2 k0 t_p t_at t_span t_token t_word t_number =
    if (7 : Int32) ≤ t_span then
      gn_X12_skip_8 t_size t_limit t_tape v2 k0 t_p t_at t_span t_token t_word t_number
    else
      Option.bind (dn_X12_peek t_size t_p t_tape) fun q36 =>
      gn_X12_skip_8 t_size t_limit t_tape v2 k0 t_p t_at t_span t_token ((t_word <<< (Int32.toInt64 8 &&& 63)) ||| (Int32.toInt64 q36)) t_number := by
  rw [gn_X12_skip_7, lpC_eq]
  show lpO _ (bd_X12_skip_7 t_size t_limit t_tape v2 k0 t_p t_at t_span t_token t_word t_number) = _
  unfold bd_X12_skip_7
  simp only [lpO_ite, lpO_bind, lpO_none, lpO_l, lpO_r]
  try rfl
theorem gq_X12_skip_8 (t_size : Int32) (t_limit : Int32) (t_tape : Nat → Int32) (v2 : Int32) (v3 : Int32) (t_p : Int32) (t_at : Int32) (t_span : Int32) (t_token : Int32) (t_word : Int64) (t_number : Int32) : gn_X12_skip_8 t_size t_limit t_tape v2 v3 t_p t_at t_span t_token t_word t_number =
    if (2 : Int32) ≤ t_span then
      gn_X12_skip_9 t_size t_limit t_tape v2 v3 t_p t_at t_span t_token t_word t_number
    else
      Option.bind (dn_X12_peek t_size t_p t_tape) fun q38 =>
      gn_X12_skip_9 t_size t_limit t_tape v2 v3 t_p t_at t_span t_token t_word ((((10 : Int32) * t_number) + q38) - 48) := by
  rw [gn_X12_skip_8, lpC_eq]
  show lpO _ (bd_X12_skip_8 t_size t_limit t_tape v2 v3 t_p t_at t_span t_token t_word t_number) = _
  unfold bd_X12_skip_8
  simp only [lpO_ite, lpO_bind, lpO_none, lpO_l, lpO_r]
  try rfl
theorem gq_X12_skip_9 (t_size : Int32) (t_limit : Int32) (t_tape : Nat → Int32) (v2 : Int32) (v3 : Int32) (t_p : Int32) (t_at : Int32) (t_span : Int32) (t_token : Int32) (t_word : Int64) (t_number : Int32) : gn_X12_skip_9 t_size t_limit t_tape v2 v3 t_p t_at t_span t_token t_word t_number =
    gn_X12_skip_4 t_size t_limit t_tape v2 v3 (t_p + 1) t_at (t_span + 1) t_token t_word t_number := by
  rw [gn_X12_skip_9, lpC_eq]
  show lpO _ (bd_X12_skip_9 t_size t_limit t_tape v2 v3 t_p t_at t_span t_token t_word t_number) = _
  unfold bd_X12_skip_9
  simp only [lpO_ite, lpO_bind, lpO_none, lpO_l, lpO_r]
  try rfl
noncomputable def dn_X12_skip (t_size : Int32) (t_p : Int32) (t_limit : Int32) (t_token : Int32) (t_at : Int32) (t_span : Int32) (t_number : Int32) (t_word : Int64) (t_tape : Nat → Int32) : Option (Int32 × Int32 × Int32 × Int32 × Int64 × Int32) :=
  Option.bind (dn_X12_peek t_size t_p t_tape) fun q1 =>
  if q1 = 32 then
    gn_X12_skip_0 t_size t_limit t_tape (t_p + 1) t_at t_span t_token t_word t_number
  else
    Option.bind (dn_X12_peek t_size t_p t_tape) fun q3 =>
    if q3 = 10 then
      gn_X12_skip_0 t_size t_limit t_tape (t_p + 1) t_at t_span t_token t_word t_number
    else
      if t_size ≤ t_limit then
        gn_X12_skip_1 t_size t_limit t_tape t_p t_p 0 t_token t_word t_number
      else
        if t_p < t_limit then
          gn_X12_skip_1 t_size t_limit t_tape t_p t_p 0 t_token t_word t_number
        else
          some (t_p, t_limit, 0, 4, t_word, t_number)
noncomputable def dn_X12_bad (t_at : Int32) (p1 : Int32) : Option (Bool × Int32 × Int32) :=
  some (false, p1, t_at)
noncomputable def dn_X12_isWord (t_token : Int32) (t_word : Int64) (p1 : Int64) : Option (Bool) :=
  if t_token = 1 then
    if t_word = p1 then
      some true
    else
      some false
  else
    some false
noncomputable def dn_X12_isSign (t_token : Int32) (t_number : Int32) (p1 : Int32) : Option (Bool) :=
  if t_token = 3 then
    if t_number = p1 then
      some true
    else
      some false
  else
    some false
noncomputable def dn_X12_sign (t_size : Int32) (t_p : Int32) (t_limit : Int32) (t_token : Int32) (t_at : Int32) (t_span : Int32) (t_number : Int32) (t_fault : Int32) (t_faultAt : Int32) (t_word : Int64) (t_tape : Nat → Int32) (p1 : Int32) : Option (Bool × Int32 × Int32 × Int32 × Int32 × Int64 × Int32 × Int32 × Int32) :=
  Option.bind (dn_X12_isSign t_token t_number p1) fun q1 =>
  if q1 = true then
    Option.bind (dn_X12_skip t_size t_p t_limit t_token t_at t_span t_number t_word t_tape) fun q3 =>
    some (true, q3.1, q3.2.1, q3.2.2.1, q3.2.2.2.1, q3.2.2.2.2.1, q3.2.2.2.2.2, t_fault, t_faultAt)
  else
    Option.bind (dn_X12_bad t_at 1) fun q4 =>
    some (q4.1, t_p, t_at, t_span, t_token, t_word, t_number, q4.2.1, q4.2.2)
noncomputable def bd_X12_isName_0 (t_word : Int64) (t_reserved : Nat → Int64) (v1 : Int32) (v2 : Int32) : Option (((Int32 × Int32)) ⊕ (Bool)) :=
  if (11 : Int32) ≤ v2 then
    if v1 = 0 then
      some (.inr false)
    else
      if v1 = 1 then
      some (.inr true)
      else none
  else
    if v1 = 0 then
      some (.inl (0, v2 + 1))
    else
      if inb v2 11 = true then
      if t_word = (t_reserved (v2).toNatClampNeg) then
        some (.inl (0, v2 + 1))
      else
        some (.inl (1, v2 + 1))
      else none
noncomputable def st_X12_isName (t_word : Int64) (t_reserved : Nat → Int64) : ((Int32 × Int32)) → Option (((Int32 × Int32)) ⊕ (Bool)) := fun s => match s with
  | (v1, v2) => bd_X12_isName_0 t_word t_reserved v1 v2
noncomputable def gn_X12_isName_0 (t_word : Int64) (t_reserved : Nat → Int64) (v1 : Int32) (v2 : Int32) : Option (Bool) := lpC (st_X12_isName t_word t_reserved) ((v1, v2))
theorem gq_X12_isName_0 (t_word : Int64) (t_reserved : Nat → Int64) (v1 : Int32) (v2 : Int32) : gn_X12_isName_0 t_word t_reserved v1 v2 =
    if (11 : Int32) ≤ v2 then
      if v1 = 0 then
        some false
      else
        if v1 = 1 then
        some true
        else none
    else
      if v1 = 0 then
        gn_X12_isName_0 t_word t_reserved 0 (v2 + 1)
      else
        if inb v2 11 = true then
        if t_word = (t_reserved (v2).toNatClampNeg) then
          gn_X12_isName_0 t_word t_reserved 0 (v2 + 1)
        else
          gn_X12_isName_0 t_word t_reserved 1 (v2 + 1)
        else none := by
  rw [gn_X12_isName_0, lpC_eq]
  show lpO _ (bd_X12_isName_0 t_word t_reserved v1 v2) = _
  unfold bd_X12_isName_0
  simp only [lpO_ite, lpO_bind, lpO_none, lpO_l, lpO_r]
  try rfl
noncomputable def dn_X12_isName (t_token : Int32) (t_word : Int64) (t_reserved : Nat → Int64) : Option (Bool) :=
  if t_token = 1 then
    gn_X12_isName_0 t_word t_reserved 1 0
  else
    gn_X12_isName_0 t_word t_reserved 0 0
noncomputable def dn_X12_takes (t_size : Int32) (t_p : Int32) (t_limit : Int32) (t_token : Int32) (t_at : Int32) (t_span : Int32) (t_number : Int32) (t_fault : Int32) (t_faultAt : Int32) (t_word : Int64) (t_got : Int32) (t_tape : Nat → Int32) (p1 : Int32) (p2 : Int32) : Option (Bool × Int32 × Int32 × Int32 × Int32 × Int32 × Int64 × Int32 × Int32 × Int32) :=
  if t_token = 2 then
    Option.bind (dn_X12_isIn t_number p1 p2) fun q2 =>
    if q2 = true then
      Option.bind (dn_X12_skip t_size t_p t_limit t_token t_at t_span t_number t_word t_tape) fun q4 =>
      some (true, t_number, q4.1, q4.2.1, q4.2.2.1, q4.2.2.2.1, q4.2.2.2.2.1, q4.2.2.2.2.2, t_fault, t_faultAt)
    else
      Option.bind (dn_X12_bad t_at 2) fun q5 =>
      some (q5.1, t_got, t_p, t_at, t_span, t_token, t_word, t_number, q5.2.1, q5.2.2)
  else
    Option.bind (dn_X12_bad t_at 1) fun q6 =>
    some (q6.1, t_got, t_p, t_at, t_span, t_token, t_word, t_number, q6.2.1, q6.2.2)
noncomputable def bd_X12_find_0 (t_word : Int64) (t_names : Nat → Int64) (p1 : Int32) (p2 : Int32) (v3 : Int32) : Option (((Int32)) ⊕ (Int32)) :=
  if p2 ≤ v3 then
    some (.inr (-1))
  else
    if inb (p1 + v3) 80 = true then
    if (t_names ((p1 + v3)).toNatClampNeg) = t_word then
      some (.inr v3)
    else
      some (.inl (v3 + 1))
    else none
noncomputable def st_X12_find (t_word : Int64) (t_names : Nat → Int64) (p1 : Int32) (p2 : Int32) : ((Int32)) → Option (((Int32)) ⊕ (Int32)) := fun s => match s with
  | v3 => bd_X12_find_0 t_word t_names p1 p2 v3
noncomputable def gn_X12_find_0 (t_word : Int64) (t_names : Nat → Int64) (p1 : Int32) (p2 : Int32) (v3 : Int32) : Option (Int32) := lpC (st_X12_find t_word t_names p1 p2) (v3)
theorem gq_X12_find_0 (t_word : Int64) (t_names : Nat → Int64) (p1 : Int32) (p2 : Int32) (v3 : Int32) : gn_X12_find_0 t_word t_names p1 p2 v3 =
    if p2 ≤ v3 then
      some (-1)
    else
      if inb (p1 + v3) 80 = true then
      if (t_names ((p1 + v3)).toNatClampNeg) = t_word then
        some v3
      else
        gn_X12_find_0 t_word t_names p1 p2 (v3 + 1)
      else none := by
  rw [gn_X12_find_0, lpC_eq]
  show lpO _ (bd_X12_find_0 t_word t_names p1 p2 v3) = _
  unfold bd_X12_find_0
  simp only [lpO_ite, lpO_bind, lpO_none, lpO_l, lpO_r]
  try rfl
noncomputable def dn_X12_find (t_word : Int64) (t_names : Nat → Int64) (p1 : Int32) (p2 : Int32) : Option (Int32) :=
  gn_X12_find_0 t_word t_names p1 p2 0
noncomputable def dn_X12_fresh (t_size : Int32) (t_p : Int32) (t_limit : Int32) (t_token : Int32) (t_at : Int32) (t_span : Int32) (t_number : Int32) (t_fault : Int32) (t_faultAt : Int32) (t_word : Int64) (t_h : Nat → Int32) (t_names : Nat → Int64) (t_reserved : Nat → Int64) (t_tape : Nat → Int32) (p1 : Int32) : Option (Bool × Int32 × Int32 × (Nat → Int64) × Int32 × Int32 × Int32 × Int32 × Int64 × Int32) :=
  Option.bind (dn_X12_isName t_token t_word t_reserved) fun q1 =>
  if q1 = true then
    Option.bind (dn_X12_find t_word t_names 40 (t_h (0 : Int32).toNatClampNeg)) fun q3 =>
    if 0 ≤ q3 then
      Option.bind (dn_X12_bad t_at 3) fun q5 =>
      some (q5.1, q5.2.1, q5.2.2, t_names, t_p, t_at, t_span, t_token, t_word, t_number)
    else
      Option.bind (dn_X12_find t_word t_names 50 (t_h (1 : Int32).toNatClampNeg)) fun q6 =>
      if q6 < 0 then
        if inb p1 80 = true then
        Option.bind (dn_X12_skip t_size t_p t_limit t_token t_at t_span t_number t_word t_tape) fun q9 =>
        some (true, t_fault, t_faultAt, vp_updL t_names (p1).toNatClampNeg t_word, q9.1, q9.2.1, q9.2.2.1, q9.2.2.2.1, q9.2.2.2.2.1, q9.2.2.2.2.2)
        else none
      else
        Option.bind (dn_X12_bad t_at 3) fun q10 =>
        some (q10.1, q10.2.1, q10.2.2, t_names, t_p, t_at, t_span, t_token, t_word, t_number)
  else
    Option.bind (dn_X12_bad t_at 1) fun q11 =>
    some (q11.1, q11.2.1, q11.2.2, t_names, t_p, t_at, t_span, t_token, t_word, t_number)
noncomputable def dn_X12_takesPerson (t_size : Int32) (t_p : Int32) (t_limit : Int32) (t_token : Int32) (t_at : Int32) (t_span : Int32) (t_number : Int32) (t_fault : Int32) (t_faultAt : Int32) (t_word : Int64) (t_got : Int32) (t_h : Nat → Int32) (t_names : Nat → Int64) (t_reserved : Nat → Int64) (t_tape : Nat → Int32) (p1 : Int32) : Option (Bool × Int32 × Int32 × Int32 × Int32 × Int32 × Int32 × Int32 × Int64 × Int32) :=
  Option.bind (dn_X12_isName t_token t_word t_reserved) fun q1 =>
  if q1 = true then
    Option.bind (dn_X12_find t_word t_names 40 (t_h (0 : Int32).toNatClampNeg)) fun q3 =>
    if q3 < 0 then
      Option.bind (dn_X12_bad t_at 3) fun q5 =>
      some (q5.1, q3, q5.2.1, q5.2.2, t_p, t_at, t_span, t_token, t_word, t_number)
    else
      if q3 = p1 then
        Option.bind (dn_X12_bad t_at 3) fun q8 =>
        some (q8.1, q3, q8.2.1, q8.2.2, t_p, t_at, t_span, t_token, t_word, t_number)
      else
        Option.bind (dn_X12_skip t_size t_p t_limit t_token t_at t_span t_number t_word t_tape) fun q7 =>
        some (true, q3, t_fault, t_faultAt, q7.1, q7.2.1, q7.2.2.1, q7.2.2.2.1, q7.2.2.2.2.1, q7.2.2.2.2.2)
  else
    Option.bind (dn_X12_bad t_at 1) fun q9 =>
    some (q9.1, t_got, q9.2.1, q9.2.2, t_p, t_at, t_span, t_token, t_word, t_number)
noncomputable def dn_X12_toldOf (t_size : Int32) (t_p : Int32) (t_limit : Int32) (t_token : Int32) (t_at : Int32) (t_span : Int32) (t_number : Int32) (t_fault : Int32) (t_faultAt : Int32) (t_word : Int64) (t_got : Int32) (t_h : Nat → Int32) (t_names : Nat → Int64) (t_reserved : Nat → Int64) (t_tape : Nat → Int32) (p1 : Int32) : Option (Bool × Int32 × Int32 × Int32 × Int32 × Int64 × Int32 × Int32 × Int32 × Int32) :=
  Option.bind (dn_X12_skip t_size t_p t_limit t_token t_at t_span t_number t_word t_tape) fun q1 =>
  Option.bind (dn_X12_isName q1.2.2.2.1 q1.2.2.2.2.1 t_reserved) fun q2 =>
  if q2 = true then
    Option.bind (dn_X12_find q1.2.2.2.2.1 t_names 40 (t_h (0 : Int32).toNatClampNeg)) fun q4 =>
    if q4 < 0 then
      Option.bind (dn_X12_bad q1.2.1 3) fun q6 =>
      some (q6.1, q1.1, q1.2.1, q1.2.2.1, q1.2.2.2.1, q1.2.2.2.2.1, q1.2.2.2.2.2, q4, q6.2.1, q6.2.2)
    else
      Option.bind (dn_X12_has p1 q4) fun q7 =>
      if q7 = true then
        Option.bind (dn_X12_bad q1.2.1 3) fun q10 =>
        some (q10.1, q1.1, q1.2.1, q1.2.2.1, q1.2.2.2.1, q1.2.2.2.2.1, q1.2.2.2.2.2, q4, q10.2.1, q10.2.2)
      else
        Option.bind (dn_X12_skip t_size q1.1 t_limit q1.2.2.2.1 q1.2.1 q1.2.2.1 q1.2.2.2.2.2 q1.2.2.2.2.1 t_tape) fun q9 =>
        some (true, q9.1, q9.2.1, q9.2.2.1, q9.2.2.2.1, q9.2.2.2.2.1, q9.2.2.2.2.2, q4, t_fault, t_faultAt)
  else
    Option.bind (dn_X12_bad q1.2.1 1) fun q11 =>
    some (q11.1, q1.1, q1.2.1, q1.2.2.1, q1.2.2.2.1, q1.2.2.2.2.1, q1.2.2.2.2.2, t_got, q11.2.1, q11.2.2)
noncomputable def bd_X12_readDeal_0 (t_size : Int32) (t_limit : Int32) (t_tape : Nat → Int32) (v2 : Int32) (v3 : Int32) (v4 : Int32) (k0 : Int32) (t_p : Int32) (t_at : Int32) (t_span : Int32) (t_token : Int32) (t_word : Int64) (t_number : Int32) (t_fault : Int32) (t_faultAt : Int32) (t_names : Nat → Int64) (t_got : Int32) (t_h : Nat → Int32) : Option (((Int32 × Int32 × Int32 × Int32 × Int32 × Int32 × Int32 × Int32 × Int64 × Int32 × Int32 × Int32 × (Nat → Int64) × Int32 × (Nat → Int32)) ⊕ ((Int32 × Int32 × Int32 × Int32 × Int32 × Int32 × Int32 × Int32 × Int32 × Int64 × Int32 × Int32 × Int32 × (Nat → Int64) × Int32 × (Nat → Int32)) ⊕ ((Int32 × Int32 × Int32 × Int32 × Int64 × Int32 × Int32 × Int32 × (Nat → Int64) × Int32 × (Nat → Int32))))) ⊕ (Bool × Int32 × Int32 × Int32 × Int32 × Int64 × Int32 × Int32 × Int32 × (Nat → Int64) × Int32 × (Nat → Int32))) :=
  if inb ((14 : Int32) + v3) 224 = true then
  if inb ((14 : Int32) + v4) 224 = true then
  if (t_h (((14 : Int32) + v4)).toNatClampNeg) ≤ (t_h (((14 : Int32) + v3)).toNatClampNeg) then
    if inb ((14 : Int32) + v4) 224 = true then
    some (.inl (.inr (.inl (v2, v3, v4, k0, t_h (((14 : Int32) + v4)).toNatClampNeg, t_p, t_at, t_span, t_token, t_word, t_number, t_fault, t_faultAt, t_names, t_got, t_h))))
    else none
  else
    if inb ((14 : Int32) + v3) 224 = true then
    some (.inl (.inr (.inl (v2, v3, v4, k0, t_h (((14 : Int32) + v3)).toNatClampNeg, t_p, t_at, t_span, t_token, t_word, t_number, t_fault, t_faultAt, t_names, t_got, t_h))))
    else none
  else none
  else none
noncomputable def bd_X12_readDeal_1 (t_size : Int32) (t_limit : Int32) (t_tape : Nat → Int32) (v2 : Int32) (v3 : Int32) (v4 : Int32) (v5 : Int32) (k0 : Int32) (t_p : Int32) (t_at : Int32) (t_span : Int32) (t_token : Int32) (t_word : Int64) (t_number : Int32) (t_fault : Int32) (t_faultAt : Int32) (t_names : Nat → Int64) (t_got : Int32) (t_h : Nat → Int32) : Option (((Int32 × Int32 × Int32 × Int32 × Int32 × Int32 × Int32 × Int32 × Int64 × Int32 × Int32 × Int32 × (Nat → Int64) × Int32 × (Nat → Int32)) ⊕ ((Int32 × Int32 × Int32 × Int32 × Int32 × Int32 × Int32 × Int32 × Int32 × Int64 × Int32 × Int32 × Int32 × (Nat → Int64) × Int32 × (Nat → Int32)) ⊕ ((Int32 × Int32 × Int32 × Int32 × Int64 × Int32 × Int32 × Int32 × (Nat → Int64) × Int32 × (Nat → Int32))))) ⊕ (Bool × Int32 × Int32 × Int32 × Int32 × Int64 × Int32 × Int32 × Int32 × (Nat → Int64) × Int32 × (Nat → Int32))) :=
  if inb v2 224 = true then
  if inb (v2 + 1) 224 = true then
  Option.bind (dn_X12_takes t_size t_p t_limit t_token t_at t_span t_number t_fault t_faultAt t_word t_got t_tape v5 k0) fun q22 =>
  if q22.1 = true then
    if inb (v2 + 2) 224 = true then
    Option.bind (dn_X12_takes t_size q22.2.2.1 t_limit q22.2.2.2.2.2.1 q22.2.2.2.1 q22.2.2.2.2.1 q22.2.2.2.2.2.2.2.1 q22.2.2.2.2.2.2.2.2.1 q22.2.2.2.2.2.2.2.2.2 q22.2.2.2.2.2.2.1 q22.2.1 t_tape 0 99) fun q25 =>
    if q25.1 = true then
      if inb (v2 + 3) 224 = true then
      Option.bind (dn_X12_takes t_size q25.2.2.1 t_limit q25.2.2.2.2.2.1 q25.2.2.2.1 q25.2.2.2.2.1 q25.2.2.2.2.2.2.2.1 q25.2.2.2.2.2.2.2.2.1 q25.2.2.2.2.2.2.2.2.2 q25.2.2.2.2.2.2.1 q25.2.1 t_tape 0 99) fun q28 =>
      if q28.1 = true then
        if inb (v2 + 4) 224 = true then
        if inb (v2 + 5) 224 = true then
        Option.bind (dn_X12_isWord q28.2.2.2.2.2.1 q28.2.2.2.2.2.2.1 111503598970226) fun q32 =>
        if q32 = true then
          if inb (v2 + 5) 224 = true then
          Option.bind (dn_X12_skip t_size q28.2.2.1 t_limit q28.2.2.2.2.2.1 q28.2.2.2.1 q28.2.2.2.2.1 q28.2.2.2.2.2.2.2.1 q28.2.2.2.2.2.2.1 t_tape) fun q35 =>
          some (.inl (.inr (.inr ((q35.1, q35.2.1, q35.2.2.1, q35.2.2.2.1, q35.2.2.2.2.1, q35.2.2.2.2.2, q28.2.2.2.2.2.2.2.2.1, q28.2.2.2.2.2.2.2.2.2, t_names, q28.2.1, upd (upd (upd (upd (upd (upd (upd t_h (v2).toNatClampNeg v3) (v2 + 1).toNatClampNeg v4) (v2 + 2).toNatClampNeg q22.2.1) (v2 + 3).toNatClampNeg q25.2.1) (v2 + 4).toNatClampNeg q28.2.1) (v2 + 5).toNatClampNeg 0) (v2 + 5).toNatClampNeg 1)))))
          else none
        else
          some (.inl (.inr (.inr ((q28.2.2.1, q28.2.2.2.1, q28.2.2.2.2.1, q28.2.2.2.2.2.1, q28.2.2.2.2.2.2.1, q28.2.2.2.2.2.2.2.1, q28.2.2.2.2.2.2.2.2.1, q28.2.2.2.2.2.2.2.2.2, t_names, q28.2.1, upd (upd (upd (upd (upd (upd t_h (v2).toNatClampNeg v3) (v2 + 1).toNatClampNeg v4) (v2 + 2).toNatClampNeg q22.2.1) (v2 + 3).toNatClampNeg q25.2.1) (v2 + 4).toNatClampNeg q28.2.1) (v2 + 5).toNatClampNeg 0)))))
        else none
        else none
      else
        some (.inr (false, q28.2.2.1, q28.2.2.2.1, q28.2.2.2.2.1, q28.2.2.2.2.2.1, q28.2.2.2.2.2.2.1, q28.2.2.2.2.2.2.2.1, q28.2.2.2.2.2.2.2.2.1, q28.2.2.2.2.2.2.2.2.2, t_names, q28.2.1, upd (upd (upd (upd t_h (v2).toNatClampNeg v3) (v2 + 1).toNatClampNeg v4) (v2 + 2).toNatClampNeg q22.2.1) (v2 + 3).toNatClampNeg q25.2.1))
      else none
    else
      some (.inr (false, q25.2.2.1, q25.2.2.2.1, q25.2.2.2.2.1, q25.2.2.2.2.2.1, q25.2.2.2.2.2.2.1, q25.2.2.2.2.2.2.2.1, q25.2.2.2.2.2.2.2.2.1, q25.2.2.2.2.2.2.2.2.2, t_names, q25.2.1, upd (upd (upd t_h (v2).toNatClampNeg v3) (v2 + 1).toNatClampNeg v4) (v2 + 2).toNatClampNeg q22.2.1))
    else none
  else
    some (.inr (false, q22.2.2.1, q22.2.2.2.1, q22.2.2.2.2.1, q22.2.2.2.2.2.1, q22.2.2.2.2.2.2.1, q22.2.2.2.2.2.2.2.1, q22.2.2.2.2.2.2.2.2.1, q22.2.2.2.2.2.2.2.2.2, t_names, q22.2.1, upd (upd t_h (v2).toNatClampNeg v3) (v2 + 1).toNatClampNeg v4))
  else none
  else none
noncomputable def bd_X12_readDeal_2 (t_size : Int32) (t_limit : Int32) (t_tape : Nat → Int32) (t_p : Int32) (t_at : Int32) (t_span : Int32) (t_token : Int32) (t_word : Int64) (t_number : Int32) (t_fault : Int32) (t_faultAt : Int32) (t_names : Nat → Int64) (t_got : Int32) (t_h : Nat → Int32) : Option (((Int32 × Int32 × Int32 × Int32 × Int32 × Int32 × Int32 × Int32 × Int64 × Int32 × Int32 × Int32 × (Nat → Int64) × Int32 × (Nat → Int32)) ⊕ ((Int32 × Int32 × Int32 × Int32 × Int32 × Int32 × Int32 × Int32 × Int32 × Int64 × Int32 × Int32 × Int32 × (Nat → Int64) × Int32 × (Nat → Int32)) ⊕ ((Int32 × Int32 × Int32 × Int32 × Int64 × Int32 × Int32 × Int32 × (Nat → Int64) × Int32 × (Nat → Int32))))) ⊕ (Bool × Int32 × Int32 × Int32 × Int32 × Int64 × Int32 × Int32 × Int32 × (Nat → Int64) × Int32 × (Nat → Int32))) :=
  some (.inr (true, t_p, t_at, t_span, t_token, t_word, t_number, t_fault, t_faultAt, t_names, t_got, upd t_h (1 : Int32).toNatClampNeg ((t_h (1 : Int32).toNatClampNeg) + 1)))
noncomputable def st_X12_readDeal (t_size : Int32) (t_limit : Int32) (t_tape : Nat → Int32) : ((Int32 × Int32 × Int32 × Int32 × Int32 × Int32 × Int32 × Int32 × Int64 × Int32 × Int32 × Int32 × (Nat → Int64) × Int32 × (Nat → Int32)) ⊕ ((Int32 × Int32 × Int32 × Int32 × Int32 × Int32 × Int32 × Int32 × Int32 × Int64 × Int32 × Int32 × Int32 × (Nat → Int64) × Int32 × (Nat → Int32)) ⊕ ((Int32 × Int32 × Int32 × Int32 × Int64 × Int32 × Int32 × Int32 × (Nat → Int64) × Int32 × (Nat → Int32))))) → Option (((Int32 × Int32 × Int32 × Int32 × Int32 × Int32 × Int32 × Int32 × Int64 × Int32 × Int32 × Int32 × (Nat → Int64) × Int32 × (Nat → Int32)) ⊕ ((Int32 × Int32 × Int32 × Int32 × Int32 × Int32 × Int32 × Int32 × Int32 × Int64 × Int32 × Int32 × Int32 × (Nat → Int64) × Int32 × (Nat → Int32)) ⊕ ((Int32 × Int32 × Int32 × Int32 × Int64 × Int32 × Int32 × Int32 × (Nat → Int64) × Int32 × (Nat → Int32))))) ⊕ (Bool × Int32 × Int32 × Int32 × Int32 × Int64 × Int32 × Int32 × Int32 × (Nat → Int64) × Int32 × (Nat → Int32))) := fun s => match s with
  | .inl (v2, v3, v4, k0, t_p, t_at, t_span, t_token, t_word, t_number, t_fault, t_faultAt, t_names, t_got, t_h) => bd_X12_readDeal_0 t_size t_limit t_tape v2 v3 v4 k0 t_p t_at t_span t_token t_word t_number t_fault t_faultAt t_names t_got t_h
  | .inr (.inl (v2, v3, v4, v5, k0, t_p, t_at, t_span, t_token, t_word, t_number, t_fault, t_faultAt, t_names, t_got, t_h)) => bd_X12_readDeal_1 t_size t_limit t_tape v2 v3 v4 v5 k0 t_p t_at t_span t_token t_word t_number t_fault t_faultAt t_names t_got t_h
  | .inr (.inr ((t_p, t_at, t_span, t_token, t_word, t_number, t_fault, t_faultAt, t_names, t_got, t_h))) => bd_X12_readDeal_2 t_size t_limit t_tape t_p t_at t_span t_token t_word t_number t_fault t_faultAt t_names t_got t_h
noncomputable def gn_X12_readDeal_0 (t_size : Int32) (t_limit : Int32) (t_tape : Nat → Int32) (v2 : Int32) (v3 : Int32) (v4 : Int32) (k0 : Int32) (t_p : Int32) (t_at : Int32) (t_span : Int32) (t_token : Int32) (t_word : Int64) (t_number : Int32) (t_fault : Int32) (t_faultAt : Int32) (t_names : Nat → Int64) (t_got : Int32) (t_h : Nat → Int32) : Option (Bool × Int32 × Int32 × Int32 × Int32 × Int64 × Int32 × Int32 × Int32 × (Nat → Int64) × Int32 × (Nat → Int32)) := lpC (st_X12_readDeal t_size t_limit t_tape) (.inl (v2, v3, v4, k0, t_p, t_at, t_span, t_token, t_word, t_number, t_fault, t_faultAt, t_names, t_got, t_h))
noncomputable def gn_X12_readDeal_1 (t_size : Int32) (t_limit : Int32) (t_tape : Nat → Int32) (v2 : Int32) (v3 : Int32) (v4 : Int32) (v5 : Int32) (k0 : Int32) (t_p : Int32) (t_at : Int32) (t_span : Int32) (t_token : Int32) (t_word : Int64) (t_number : Int32) (t_fault : Int32) (t_faultAt : Int32) (t_names : Nat → Int64) (t_got : Int32) (t_h : Nat → Int32) : Option (Bool × Int32 × Int32 × Int32 × Int32 × Int64 × Int32 × Int32 × Int32 × (Nat → Int64) × Int32 × (Nat → Int32)) := lpC (st_X12_readDeal t_size t_limit t_tape) (.inr (.inl (v2, v3, v4, v5, k0, t_p, t_at, t_span, t_token, t_word, t_number, t_fault, t_faultAt, t_names, t_got, t_h)))
noncomputable def gn_X12_readDeal_2 (t_size : Int32) (t_limit : Int32) (t_tape : Nat → Int32) (t_p : Int32) (t_at : Int32) (t_span : Int32) (t_token : Int32) (t_word : Int64) (t_number : Int32) (t_fault : Int32) (t_faultAt : Int32) (t_names : Nat → Int64) (t_got : Int32) (t_h : Nat → Int32) : Option (Bool × Int32 × Int32 × Int32 × Int32 × Int64 × Int32 × Int32 × Int32 × (Nat → Int64) × Int32 × (Nat → Int32)) := lpC (st_X12_readDeal t_size t_limit t_tape) (.inr (.inr ((t_p, t_at, t_span, t_token, t_word, t_number, t_fault, t_faultAt, t_names, t_got, t_h))))
theorem gq_X12_readDeal_0 (t_size : Int32) (t_limit : Int32) (t_tape : Nat → Int32) (v2 : Int32) (v3 : Int32) (v4 : Int32) (k0 : Int32) (t_p : Int32) (t_at : Int32) (t_span : Int32) (t_token : Int32) (t_word : Int64) (t_number : Int32) (t_fault : Int32) (t_faultAt : Int32) (t_names : Nat → Int64) (t_got : Int32) (t_h : Nat → Int32) : gn_X12_readDeal_0 t_size t_limit t_tape v2 v3 v4 k0 t_p t_at t_span t_token t_word t_number t_fault t_faultAt t_names t_got t_h =
    if inb ((14 : Int32) + v3) 224 = true then
    if inb ((14 : Int32) + v4) 224 = true then
    if (t_h (((14 : Int32) + v4)).toNatClampNeg) ≤ (t_h (((14 : Int32) + v3)).toNatClampNeg) then
      if inb ((14 : Int32) + v4) 224 = true then
      gn_X12_readDeal_1 t_size t_limit t_tape v2 v3 v4 k0 (t_h (((14 : Int32) + v4)).toNatClampNeg) t_p t_at t_span t_token t_word t_number t_fault t_faultAt t_names t_got t_h
      else none
    else
      if inb ((14 : Int32) + v3) 224 = true then
      gn_X12_readDeal_1 t_size t_limit t_tape v2 v3 v4 k0 (t_h (((14 : Int32) + v3)).toNatClampNeg) t_p t_at t_span t_token t_word t_number t_fault t_faultAt t_names t_got t_h
      else none
    else none
    else none := by
  rw [gn_X12_readDeal_0, lpC_eq]
  show lpO _ (bd_X12_readDeal_0 t_size t_limit t_tape v2 v3 v4 k0 t_p t_at t_span t_token t_word t_number t_fault t_faultAt t_names t_got t_h) = _
  unfold bd_X12_readDeal_0
  simp only [lpO_ite, lpO_bind, lpO_none, lpO_l, lpO_r]
  try rfl
theorem gq_X12_readDeal_1 (t_size : Int32) (t_limit : Int32) (t_tape : Nat → Int32) (v2 : Int32) (v3 : Int32) (v4 : Int32) (v5 : Int32) (k0 : Int32) (t_p : Int32) (t_at : Int32) (t_span : Int32) (t_token : Int32) (t_word : Int64) (t_number : Int32) (t_fault : Int32) (t_faultAt : Int32) (t_names : Nat → Int64) (t_got : Int32) (t_h : Nat → Int32) : gn_X12_readDeal_1 t_size t_limit t_tape v2 v3 v4 v5 k0 t_p t_at t_span t_token t_word t_number t_fault t_faultAt t_names t_got t_h =
    if inb v2 224 = true then
    if inb (v2 + 1) 224 = true then
    Option.bind (dn_X12_takes t_size t_p t_limit t_token t_at t_span t_number t_fault t_faultAt t_word t_got t_tape v5 k0) fun q22 =>
    if q22.1 = true then
      if inb (v2 + 2) 224 = true then
      Option.bind (dn_X12_takes t_size q22.2.2.1 t_limit q22.2.2.2.2.2.1 q22.2.2.2.1 q22.2.2.2.2.1 q22.2.2.2.2.2.2.2.1 q22.2.2.2.2.2.2.2.2.1 q22.2.2.2.2.2.2.2.2.2 q22.2.2.2.2.2.2.1 q22.2.1 t_tape 0 99) fun q25 =>
      if q25.1 = true then
        if inb (v2 + 3) 224 = true then
        Option.bind (dn_X12_takes t_size q25.2.2.1 t_limit q25.2.2.2.2.2.1 q25.2.2.2.1 q25.2.2.2.2.1 q25.2.2.2.2.2.2.2.1 q25.2.2.2.2.2.2.2.2.1 q25.2.2.2.2.2.2.2.2.2 q25.2.2.2.2.2.2.1 q25.2.1 t_tape 0 99) fun q28 =>
        if q28.1 = true then
          if inb (v2 + 4) 224 = true then
          if inb (v2 + 5) 224 = true then
          Option.bind (dn_X12_isWord q28.2.2.2.2.2.1 q28.2.2.2.2.2.2.1 111503598970226) fun q32 =>
          if q32 = true then
            if inb (v2 + 5) 224 = true then
            Option.bind (dn_X12_skip t_size q28.2.2.1 t_limit q28.2.2.2.2.2.1 q28.2.2.2.1 q28.2.2.2.2.1 q28.2.2.2.2.2.2.2.1 q28.2.2.2.2.2.2.1 t_tape) fun q35 =>
            gn_X12_readDeal_2 t_size t_limit t_tape q35.1 q35.2.1 q35.2.2.1 q35.2.2.2.1 q35.2.2.2.2.1 q35.2.2.2.2.2 q28.2.2.2.2.2.2.2.2.1 q28.2.2.2.2.2.2.2.2.2 t_names q28.2.1 (upd (upd (upd (upd (upd (upd (upd t_h (v2).toNatClampNeg v3) (v2 + 1).toNatClampNeg v4) (v2 + 2).toNatClampNeg q22.2.1) (v2 + 3).toNatClampNeg q25.2.1) (v2 + 4).toNatClampNeg q28.2.1) (v2 + 5).toNatClampNeg 0) (v2 + 5).toNatClampNeg 1)
            else none
          else
            gn_X12_readDeal_2 t_size t_limit t_tape q28.2.2.1 q28.2.2.2.1 q28.2.2.2.2.1 q28.2.2.2.2.2.1 q28.2.2.2.2.2.2.1 q28.2.2.2.2.2.2.2.1 q28.2.2.2.2.2.2.2.2.1 q28.2.2.2.2.2.2.2.2.2 t_names q28.2.1 (upd (upd (upd (upd (upd (upd t_h (v2).toNatClampNeg v3) (v2 + 1).toNatClampNeg v4) (v2 + 2).toNatClampNeg q22.2.1) (v2 + 3).toNatClampNeg q25.2.1) (v2 + 4).toNatClampNeg q28.2.1) (v2 + 5).toNatClampNeg 0)
          else none
          else none
        else
          some (false, q28.2.2.1, q28.2.2.2.1, q28.2.2.2.2.1, q28.2.2.2.2.2.1, q28.2.2.2.2.2.2.1, q28.2.2.2.2.2.2.2.1, q28.2.2.2.2.2.2.2.2.1, q28.2.2.2.2.2.2.2.2.2, t_names, q28.2.1, upd (upd (upd (upd t_h (v2).toNatClampNeg v3) (v2 + 1).toNatClampNeg v4) (v2 + 2).toNatClampNeg q22.2.1) (v2 + 3).toNatClampNeg q25.2.1)
        else none
      else
        some (false, q25.2.2.1, q25.2.2.2.1, q25.2.2.2.2.1, q25.2.2.2.2.2.1, q25.2.2.2.2.2.2.1, q25.2.2.2.2.2.2.2.1, q25.2.2.2.2.2.2.2.2.1, q25.2.2.2.2.2.2.2.2.2, t_names, q25.2.1, upd (upd (upd t_h (v2).toNatClampNeg v3) (v2 + 1).toNatClampNeg v4) (v2 + 2).toNatClampNeg q22.2.1)
      else none
    else
      some (false, q22.2.2.1, q22.2.2.2.1, q22.2.2.2.2.1, q22.2.2.2.2.2.1, q22.2.2.2.2.2.2.1, q22.2.2.2.2.2.2.2.1, q22.2.2.2.2.2.2.2.2.1, q22.2.2.2.2.2.2.2.2.2, t_names, q22.2.1, upd (upd t_h (v2).toNatClampNeg v3) (v2 + 1).toNatClampNeg v4)
    else none
    else none := by
  rw [gn_X12_readDeal_1, lpC_eq]
  show lpO _ (bd_X12_readDeal_1 t_size t_limit t_tape v2 v3 v4 v5 k0 t_p t_at t_span t_token t_word t_number t_fault t_faultAt t_names t_got t_h) = _
  unfold bd_X12_readDeal_1
  simp only [lpO_ite, lpO_bind, lpO_none, lpO_l, lpO_r]
  try rfl
theorem gq_X12_readDeal_2 (t_size : Int32) (t_limit : Int32) (t_tape : Nat → Int32) (t_p : Int32) (t_at : Int32) (t_span : Int32) (t_token : Int32) (t_word : Int64) (t_number : Int32) (t_fault : Int32) (t_faultAt : Int32) (t_names : Nat → Int64) (t_got : Int32) (t_h : Nat → Int32) : gn_X12_readDeal_2 t_size t_limit t_tape t_p t_at t_span t_token t_word t_number t_fault t_faultAt t_names t_got t_h =
    some (true, t_p, t_at, t_span, t_token, t_word, t_number, t_fault, t_faultAt, t_names, t_got, upd t_h (1 : Int32).toNatClampNeg ((t_h (1 : Int32).toNatClampNeg) + 1)) := by
  rw [gn_X12_readDeal_2, lpC_eq]
  show lpO _ (bd_X12_readDeal_2 t_size t_limit t_tape t_p t_at t_span t_token t_word t_number t_fault t_faultAt t_names t_got t_h) = _
  unfold bd_X12_readDeal_2
  simp only [lpO_ite, lpO_bind, lpO_none, lpO_l, lpO_r]
  try rfl
noncomputable def dn_X12_readDeal (t_size : Int32) (t_p : Int32) (t_limit : Int32) (t_token : Int32) (t_at : Int32) (t_span : Int32) (t_number : Int32) (t_fault : Int32) (t_faultAt : Int32) (t_word : Int64) (t_got : Int32) (t_h : Nat → Int32) (t_names : Nat → Int64) (t_reserved : Nat → Int64) (t_tape : Nat → Int32) : Option (Bool × Int32 × Int32 × Int32 × Int32 × Int64 × Int32 × Int32 × Int32 × (Nat → Int64) × Int32 × (Nat → Int32)) :=
  if (t_h (1 : Int32).toNatClampNeg) = 30 then
    Option.bind (dn_X12_bad t_at 4) fun q14 =>
    some (q14.1, t_p, t_at, t_span, t_token, t_word, t_number, q14.2.1, q14.2.2, t_names, t_got, t_h)
  else
    Option.bind (dn_X12_skip t_size t_p t_limit t_token t_at t_span t_number t_word t_tape) fun q2 =>
    Option.bind (dn_X12_fresh t_size q2.1 t_limit q2.2.2.2.1 q2.2.1 q2.2.2.1 q2.2.2.2.2.2 t_fault t_faultAt q2.2.2.2.2.1 t_h t_names t_reserved t_tape ((50 : Int32) + (t_h (1 : Int32).toNatClampNeg))) fun q3 =>
    if q3.1 = true then
      Option.bind (dn_X12_takesPerson t_size q3.2.2.2.2.1 t_limit q3.2.2.2.2.2.2.2.1 q3.2.2.2.2.2.1 q3.2.2.2.2.2.2.1 q3.2.2.2.2.2.2.2.2.2 q3.2.1 q3.2.2.1 q3.2.2.2.2.2.2.2.2.1 t_got t_h q3.2.2.2.1 t_reserved t_tape (-1)) fun q5 =>
      if q5.1 = true then
        Option.bind (dn_X12_takesPerson t_size q5.2.2.2.2.1 t_limit q5.2.2.2.2.2.2.2.1 q5.2.2.2.2.2.1 q5.2.2.2.2.2.2.1 q5.2.2.2.2.2.2.2.2.2 q5.2.2.1 q5.2.2.2.1 q5.2.2.2.2.2.2.2.2.1 q5.2.1 t_h q3.2.2.2.1 t_reserved t_tape q5.2.1) fun q7 =>
        if q7.1 = true then
          if inb ((4 : Int32) + q5.2.1) 224 = true then
          if inb ((4 : Int32) + q7.2.1) 224 = true then
          if (t_h (((4 : Int32) + q5.2.1)).toNatClampNeg) ≤ (t_h (((4 : Int32) + q7.2.1)).toNatClampNeg) then
            if inb ((4 : Int32) + q7.2.1) 224 = true then
            gn_X12_readDeal_0 t_size t_limit t_tape ((44 : Int32) + ((6 : Int32) * (t_h (1 : Int32).toNatClampNeg))) q5.2.1 q7.2.1 (t_h (((4 : Int32) + q7.2.1)).toNatClampNeg) q7.2.2.2.2.1 q7.2.2.2.2.2.1 q7.2.2.2.2.2.2.1 q7.2.2.2.2.2.2.2.1 q7.2.2.2.2.2.2.2.2.1 q7.2.2.2.2.2.2.2.2.2 q7.2.2.1 q7.2.2.2.1 q3.2.2.2.1 q7.2.1 t_h
            else none
          else
            if inb ((4 : Int32) + q5.2.1) 224 = true then
            gn_X12_readDeal_0 t_size t_limit t_tape ((44 : Int32) + ((6 : Int32) * (t_h (1 : Int32).toNatClampNeg))) q5.2.1 q7.2.1 (t_h (((4 : Int32) + q5.2.1)).toNatClampNeg) q7.2.2.2.2.1 q7.2.2.2.2.2.1 q7.2.2.2.2.2.2.1 q7.2.2.2.2.2.2.2.1 q7.2.2.2.2.2.2.2.2.1 q7.2.2.2.2.2.2.2.2.2 q7.2.2.1 q7.2.2.2.1 q3.2.2.2.1 q7.2.1 t_h
            else none
          else none
          else none
        else
          some (false, q7.2.2.2.2.1, q7.2.2.2.2.2.1, q7.2.2.2.2.2.2.1, q7.2.2.2.2.2.2.2.1, q7.2.2.2.2.2.2.2.2.1, q7.2.2.2.2.2.2.2.2.2, q7.2.2.1, q7.2.2.2.1, q3.2.2.2.1, q7.2.1, t_h)
      else
        some (false, q5.2.2.2.2.1, q5.2.2.2.2.2.1, q5.2.2.2.2.2.2.1, q5.2.2.2.2.2.2.2.1, q5.2.2.2.2.2.2.2.2.1, q5.2.2.2.2.2.2.2.2.2, q5.2.2.1, q5.2.2.2.1, q3.2.2.2.1, q5.2.1, t_h)
    else
      some (false, q3.2.2.2.2.1, q3.2.2.2.2.2.1, q3.2.2.2.2.2.2.1, q3.2.2.2.2.2.2.2.1, q3.2.2.2.2.2.2.2.2.1, q3.2.2.2.2.2.2.2.2.2, q3.2.1, q3.2.2.1, q3.2.2.2.1, t_got, t_h)
noncomputable def dn_X12_readLaw (t_size : Int32) (t_p : Int32) (t_limit : Int32) (t_token : Int32) (t_at : Int32) (t_span : Int32) (t_number : Int32) (t_fault : Int32) (t_faultAt : Int32) (t_word : Int64) (t_got : Int32) (t_hasLaw : Int32) (t_h : Nat → Int32) (t_tape : Nat → Int32) : Option (Bool × Int32 × Int32 × Int32 × Int32 × Int32 × Int64 × Int32 × Int32 × Int32 × Int32 × (Nat → Int32)) :=
  if t_hasLaw = 0 then
    Option.bind (dn_X12_skip t_size t_p t_limit t_token t_at t_span t_number t_word t_tape) fun q2 =>
    Option.bind (dn_X12_isWord q2.2.2.2.1 q2.2.2.2.2.1 1818846821) fun q3 =>
    if q3 = true then
      Option.bind (dn_X12_skip t_size q2.1 t_limit q2.2.2.2.1 q2.2.1 q2.2.2.1 q2.2.2.2.2.2 q2.2.2.2.2.1 t_tape) fun q11 =>
      some (true, 1, q11.1, q11.2.1, q11.2.2.1, q11.2.2.2.1, q11.2.2.2.2.1, q11.2.2.2.2.2, t_got, t_fault, t_faultAt, t_h)
    else
      Option.bind (dn_X12_isWord q2.2.2.2.1 q2.2.2.2.2.1 521391927923) fun q5 =>
      if q5 = true then
        Option.bind (dn_X12_skip t_size q2.1 t_limit q2.2.2.2.1 q2.2.1 q2.2.2.1 q2.2.2.2.2.2 q2.2.2.2.2.1 t_tape) fun q7 =>
        Option.bind (dn_X12_takes t_size q7.1 t_limit q7.2.2.2.1 q7.2.1 q7.2.2.1 q7.2.2.2.2.2 t_fault t_faultAt q7.2.2.2.2.1 t_got t_tape 1 60) fun q8 =>
        if q8.1 = true then
          some (true, 1, q8.2.2.1, q8.2.2.2.1, q8.2.2.2.2.1, q8.2.2.2.2.2.1, q8.2.2.2.2.2.2.1, q8.2.2.2.2.2.2.2.1, q8.2.1, q8.2.2.2.2.2.2.2.2.1, q8.2.2.2.2.2.2.2.2.2, upd t_h (2 : Int32).toNatClampNeg q8.2.1)
        else
          some (false, 1, q8.2.2.1, q8.2.2.2.1, q8.2.2.2.2.1, q8.2.2.2.2.2.1, q8.2.2.2.2.2.2.1, q8.2.2.2.2.2.2.2.1, q8.2.1, q8.2.2.2.2.2.2.2.2.1, q8.2.2.2.2.2.2.2.2.2, t_h)
      else
        Option.bind (dn_X12_bad q2.2.1 1) fun q10 =>
        some (q10.1, 1, q2.1, q2.2.1, q2.2.2.1, q2.2.2.2.1, q2.2.2.2.2.1, q2.2.2.2.2.2, t_got, q10.2.1, q10.2.2, t_h)
  else
    Option.bind (dn_X12_bad t_at 3) fun q12 =>
    some (q12.1, t_hasLaw, t_p, t_at, t_span, t_token, t_word, t_number, t_got, q12.2.1, q12.2.2, t_h)
noncomputable def bd_X12_line_0 (t_size : Int32) (t_limit : Int32) (t_reserved : Nat → Int64) (t_tape : Nat → Int32) (v1 : Int32) (v2 : Int32) (t_fault : Int32) (t_faultAt : Int32) (t_hasLaw : Int32) (t_p : Int32) (t_at : Int32) (t_span : Int32) (t_token : Int32) (t_word : Int64) (t_number : Int32) (t_got : Int32) (t_h : Nat → Int32) (t_names : Nat → Int64) (t_limited : Int32) : Option (((Int32 × Int32 × Int32 × Int32 × Int32 × Int32 × Int32 × Int32 × Int32 × Int64 × Int32 × Int32 × (Nat → Int32) × (Nat → Int64) × Int32) ⊕ ((Int32 × Int32 × Int32 × Int32 × Int32 × Int32 × Int32 × Int64 × Int32 × Int32 × (Nat → Int32) × (Nat → Int64) × Int32))) ⊕ (Bool × Int32 × Int32 × Int32 × Int32 × Int32 × Int32 × Int32 × Int64 × Int32 × Int32 × (Nat → Int32) × (Nat → Int64) × Int32)) :=
  if (t_h (0 : Int32).toNatClampNeg) ≤ v2 then
    Option.bind (dn_X12_toldOf t_size t_p t_limit t_token t_at t_span t_number t_fault t_faultAt t_word t_got t_h t_names t_reserved t_tape v1) fun q32 =>
    if q32.1 = true then
      Option.bind (dn_X12_isWord q32.2.2.2.2.1 q32.2.2.2.2.2.1 465558201459) fun q34 =>
      if q34 = true then
        some (.inl (.inr ((q32.2.2.2.2.2.2.2.2.1, q32.2.2.2.2.2.2.2.2.2, t_hasLaw, q32.2.1, q32.2.2.1, q32.2.2.2.1, q32.2.2.2.2.1, q32.2.2.2.2.2.1, q32.2.2.2.2.2.2.1, q32.2.2.2.2.2.2.2.1, t_h, t_names, t_limited))))
      else
        Option.bind (dn_X12_isWord q32.2.2.2.2.1 q32.2.2.2.2.2.1 27707085054506867) fun q36 =>
        if q36 = true then
          some (.inl (.inr ((q32.2.2.2.2.2.2.2.2.1, q32.2.2.2.2.2.2.2.2.2, t_hasLaw, q32.2.1, q32.2.2.1, q32.2.2.2.1, q32.2.2.2.2.1, q32.2.2.2.2.2.1, q32.2.2.2.2.2.2.1, q32.2.2.2.2.2.2.2.1, t_h, t_names, t_limited))))
        else
          Option.bind (dn_X12_bad q32.2.2.1 1) fun q38 =>
          some (.inr (q38.1, q38.2.1, q38.2.2, t_hasLaw, q32.2.1, q32.2.2.1, q32.2.2.2.1, q32.2.2.2.2.1, q32.2.2.2.2.2.1, q32.2.2.2.2.2.2.1, q32.2.2.2.2.2.2.2.1, t_h, t_names, t_limited))
    else
      some (.inr (false, q32.2.2.2.2.2.2.2.2.1, q32.2.2.2.2.2.2.2.2.2, t_hasLaw, q32.2.1, q32.2.2.1, q32.2.2.2.1, q32.2.2.2.2.1, q32.2.2.2.2.2.1, q32.2.2.2.2.2.2.1, q32.2.2.2.2.2.2.2.1, t_h, t_names, t_limited))
  else
    if inb ((34 : Int32) + v2) 224 = true then
    if (t_h (((34 : Int32) + v2)).toNatClampNeg) ≤ 0 then
      some (.inl (.inl (v1 ||| 0, v2 + 1, t_fault, t_faultAt, t_hasLaw, t_p, t_at, t_span, t_token, t_word, t_number, t_got, t_h, t_names, t_limited)))
    else
      some (.inl (.inl (v1 ||| ((1 : Int32) <<< (v2 &&& 31)), v2 + 1, t_fault, t_faultAt, t_hasLaw, t_p, t_at, t_span, t_token, t_word, t_number, t_got, t_h, t_names, t_limited)))
    else none
noncomputable def bd_X12_line_1 (t_size : Int32) (t_limit : Int32) (t_reserved : Nat → Int64) (t_tape : Nat → Int32) (t_fault : Int32) (t_faultAt : Int32) (t_hasLaw : Int32) (t_p : Int32) (t_at : Int32) (t_span : Int32) (t_token : Int32) (t_word : Int64) (t_number : Int32) (t_got : Int32) (t_h : Nat → Int32) (t_names : Nat → Int64) (t_limited : Int32) : Option (((Int32 × Int32 × Int32 × Int32 × Int32 × Int32 × Int32 × Int32 × Int32 × Int64 × Int32 × Int32 × (Nat → Int32) × (Nat → Int64) × Int32) ⊕ ((Int32 × Int32 × Int32 × Int32 × Int32 × Int32 × Int32 × Int64 × Int32 × Int32 × (Nat → Int32) × (Nat → Int64) × Int32))) ⊕ (Bool × Int32 × Int32 × Int32 × Int32 × Int32 × Int32 × Int32 × Int64 × Int32 × Int32 × (Nat → Int32) × (Nat → Int64) × Int32)) :=
  Option.bind (dn_X12_isWord t_token t_word 465558201459) fun q41 =>
  if q41 = true then
    if inb ((34 : Int32) + t_got) 224 = true then
    Option.bind (dn_X12_skip t_size t_p t_limit t_token t_at t_span t_number t_word t_tape) fun q46 =>
    some (.inr (true, t_fault, t_faultAt, t_hasLaw, q46.1, q46.2.1, q46.2.2.1, q46.2.2.2.1, q46.2.2.2.2.1, q46.2.2.2.2.2, t_got, upd t_h ((34 : Int32) + t_got).toNatClampNeg 2, t_names, t_limited))
    else none
  else
    if inb ((34 : Int32) + t_got) 224 = true then
    Option.bind (dn_X12_skip t_size t_p t_limit t_token t_at t_span t_number t_word t_tape) fun q44 =>
    some (.inr (true, t_fault, t_faultAt, t_hasLaw, q44.1, q44.2.1, q44.2.2.1, q44.2.2.2.1, q44.2.2.2.2.1, q44.2.2.2.2.2, t_got, upd t_h ((34 : Int32) + t_got).toNatClampNeg 1, t_names, t_limited))
    else none
noncomputable def st_X12_line (t_size : Int32) (t_limit : Int32) (t_reserved : Nat → Int64) (t_tape : Nat → Int32) : ((Int32 × Int32 × Int32 × Int32 × Int32 × Int32 × Int32 × Int32 × Int32 × Int64 × Int32 × Int32 × (Nat → Int32) × (Nat → Int64) × Int32) ⊕ ((Int32 × Int32 × Int32 × Int32 × Int32 × Int32 × Int32 × Int64 × Int32 × Int32 × (Nat → Int32) × (Nat → Int64) × Int32))) → Option (((Int32 × Int32 × Int32 × Int32 × Int32 × Int32 × Int32 × Int32 × Int32 × Int64 × Int32 × Int32 × (Nat → Int32) × (Nat → Int64) × Int32) ⊕ ((Int32 × Int32 × Int32 × Int32 × Int32 × Int32 × Int32 × Int64 × Int32 × Int32 × (Nat → Int32) × (Nat → Int64) × Int32))) ⊕ (Bool × Int32 × Int32 × Int32 × Int32 × Int32 × Int32 × Int32 × Int64 × Int32 × Int32 × (Nat → Int32) × (Nat → Int64) × Int32)) := fun s => match s with
  | .inl (v1, v2, t_fault, t_faultAt, t_hasLaw, t_p, t_at, t_span, t_token, t_word, t_number, t_got, t_h, t_names, t_limited) => bd_X12_line_0 t_size t_limit t_reserved t_tape v1 v2 t_fault t_faultAt t_hasLaw t_p t_at t_span t_token t_word t_number t_got t_h t_names t_limited
  | .inr ((t_fault, t_faultAt, t_hasLaw, t_p, t_at, t_span, t_token, t_word, t_number, t_got, t_h, t_names, t_limited)) => bd_X12_line_1 t_size t_limit t_reserved t_tape t_fault t_faultAt t_hasLaw t_p t_at t_span t_token t_word t_number t_got t_h t_names t_limited
noncomputable def gn_X12_line_0 (t_size : Int32) (t_limit : Int32) (t_reserved : Nat → Int64) (t_tape : Nat → Int32) (v1 : Int32) (v2 : Int32) (t_fault : Int32) (t_faultAt : Int32) (t_hasLaw : Int32) (t_p : Int32) (t_at : Int32) (t_span : Int32) (t_token : Int32) (t_word : Int64) (t_number : Int32) (t_got : Int32) (t_h : Nat → Int32) (t_names : Nat → Int64) (t_limited : Int32) : Option (Bool × Int32 × Int32 × Int32 × Int32 × Int32 × Int32 × Int32 × Int64 × Int32 × Int32 × (Nat → Int32) × (Nat → Int64) × Int32) := lpC (st_X12_line t_size t_limit t_reserved t_tape) (.inl (v1, v2, t_fault, t_faultAt, t_hasLaw, t_p, t_at, t_span, t_token, t_word, t_number, t_got, t_h, t_names, t_limited))
noncomputable def gn_X12_line_1 (t_size : Int32) (t_limit : Int32) (t_reserved : Nat → Int64) (t_tape : Nat → Int32) (t_fault : Int32) (t_faultAt : Int32) (t_hasLaw : Int32) (t_p : Int32) (t_at : Int32) (t_span : Int32) (t_token : Int32) (t_word : Int64) (t_number : Int32) (t_got : Int32) (t_h : Nat → Int32) (t_names : Nat → Int64) (t_limited : Int32) : Option (Bool × Int32 × Int32 × Int32 × Int32 × Int32 × Int32 × Int32 × Int64 × Int32 × Int32 × (Nat → Int32) × (Nat → Int64) × Int32) := lpC (st_X12_line t_size t_limit t_reserved t_tape) (.inr ((t_fault, t_faultAt, t_hasLaw, t_p, t_at, t_span, t_token, t_word, t_number, t_got, t_h, t_names, t_limited)))
theorem gq_X12_line_0 (t_size : Int32) (t_limit : Int32) (t_reserved : Nat → Int64) (t_tape : Nat → Int32) (v1 : Int32) (v2 : Int32) (t_fault : Int32) (t_faultAt : Int32) (t_hasLaw : Int32) (t_p : Int32) (t_at : Int32) (t_span : Int32) (t_token : Int32) (t_word : Int64) (t_number : Int32) (t_got : Int32) (t_h : Nat → Int32) (t_names : Nat → Int64) (t_limited : Int32) : gn_X12_line_0 t_size t_limit t_reserved t_tape v1 v2 t_fault t_faultAt t_hasLaw t_p t_at t_span t_token t_word t_number t_got t_h t_names t_limited =
    if (t_h (0 : Int32).toNatClampNeg) ≤ v2 then
      Option.bind (dn_X12_toldOf t_size t_p t_limit t_token t_at t_span t_number t_fault t_faultAt t_word t_got t_h t_names t_reserved t_tape v1) fun q32 =>
      if q32.1 = true then
        Option.bind (dn_X12_isWord q32.2.2.2.2.1 q32.2.2.2.2.2.1 465558201459) fun q34 =>
        if q34 = true then
          gn_X12_line_1 t_size t_limit t_reserved t_tape q32.2.2.2.2.2.2.2.2.1 q32.2.2.2.2.2.2.2.2.2 t_hasLaw q32.2.1 q32.2.2.1 q32.2.2.2.1 q32.2.2.2.2.1 q32.2.2.2.2.2.1 q32.2.2.2.2.2.2.1 q32.2.2.2.2.2.2.2.1 t_h t_names t_limited
        else
          Option.bind (dn_X12_isWord q32.2.2.2.2.1 q32.2.2.2.2.2.1 27707085054506867) fun q36 =>
          if q36 = true then
            gn_X12_line_1 t_size t_limit t_reserved t_tape q32.2.2.2.2.2.2.2.2.1 q32.2.2.2.2.2.2.2.2.2 t_hasLaw q32.2.1 q32.2.2.1 q32.2.2.2.1 q32.2.2.2.2.1 q32.2.2.2.2.2.1 q32.2.2.2.2.2.2.1 q32.2.2.2.2.2.2.2.1 t_h t_names t_limited
          else
            Option.bind (dn_X12_bad q32.2.2.1 1) fun q38 =>
            some (q38.1, q38.2.1, q38.2.2, t_hasLaw, q32.2.1, q32.2.2.1, q32.2.2.2.1, q32.2.2.2.2.1, q32.2.2.2.2.2.1, q32.2.2.2.2.2.2.1, q32.2.2.2.2.2.2.2.1, t_h, t_names, t_limited)
      else
        some (false, q32.2.2.2.2.2.2.2.2.1, q32.2.2.2.2.2.2.2.2.2, t_hasLaw, q32.2.1, q32.2.2.1, q32.2.2.2.1, q32.2.2.2.2.1, q32.2.2.2.2.2.1, q32.2.2.2.2.2.2.1, q32.2.2.2.2.2.2.2.1, t_h, t_names, t_limited)
    else
      if inb ((34 : Int32) + v2) 224 = true then
      if (t_h (((34 : Int32) + v2)).toNatClampNeg) ≤ 0 then
        gn_X12_line_0 t_size t_limit t_reserved t_tape (v1 ||| 0) (v2 + 1) t_fault t_faultAt t_hasLaw t_p t_at t_span t_token t_word t_number t_got t_h t_names t_limited
      else
        gn_X12_line_0 t_size t_limit t_reserved t_tape (v1 ||| ((1 : Int32) <<< (v2 &&& 31))) (v2 + 1) t_fault t_faultAt t_hasLaw t_p t_at t_span t_token t_word t_number t_got t_h t_names t_limited
      else none := by
  rw [gn_X12_line_0, lpC_eq]
  show lpO _ (bd_X12_line_0 t_size t_limit t_reserved t_tape v1 v2 t_fault t_faultAt t_hasLaw t_p t_at t_span t_token t_word t_number t_got t_h t_names t_limited) = _
  unfold bd_X12_line_0
  simp only [lpO_ite, lpO_bind, lpO_none, lpO_l, lpO_r]
  try rfl
theorem gq_X12_line_1 (t_size : Int32) (t_limit : Int32) (t_reserved : Nat → Int64) (t_tape : Nat → Int32) (t_fault : Int32) (t_faultAt : Int32) (t_hasLaw : Int32) (t_p : Int32) (t_at : Int32) (t_span : Int32) (t_token : Int32) (t_word : Int64) (t_number : Int32) (t_got : Int32) (t_h : Nat → Int32) (t_names : Nat → Int64) (t_limited : Int32) : gn_X12_line_1 t_size t_limit t_reserved t_tape t_fault t_faultAt t_hasLaw t_p t_at t_span t_token t_word t_number t_got t_h t_names t_limited =
    Option.bind (dn_X12_isWord t_token t_word 465558201459) fun q41 =>
    if q41 = true then
      if inb ((34 : Int32) + t_got) 224 = true then
      Option.bind (dn_X12_skip t_size t_p t_limit t_token t_at t_span t_number t_word t_tape) fun q46 =>
      some (true, t_fault, t_faultAt, t_hasLaw, q46.1, q46.2.1, q46.2.2.1, q46.2.2.2.1, q46.2.2.2.2.1, q46.2.2.2.2.2, t_got, upd t_h ((34 : Int32) + t_got).toNatClampNeg 2, t_names, t_limited)
      else none
    else
      if inb ((34 : Int32) + t_got) 224 = true then
      Option.bind (dn_X12_skip t_size t_p t_limit t_token t_at t_span t_number t_word t_tape) fun q44 =>
      some (true, t_fault, t_faultAt, t_hasLaw, q44.1, q44.2.1, q44.2.2.1, q44.2.2.2.1, q44.2.2.2.2.1, q44.2.2.2.2.2, t_got, upd t_h ((34 : Int32) + t_got).toNatClampNeg 1, t_names, t_limited)
      else none := by
  rw [gn_X12_line_1, lpC_eq]
  show lpO _ (bd_X12_line_1 t_size t_limit t_reserved t_tape t_fault t_faultAt t_hasLaw t_p t_at t_span t_token t_word t_number t_got t_h t_names t_limited) = _
  unfold bd_X12_line_1
  simp only [lpO_ite, lpO_bind, lpO_none, lpO_l, lpO_r]
  try rfl
noncomputable def dn_X12_line (t_size : Int32) (t_p : Int32) (t_limit : Int32) (t_token : Int32) (t_at : Int32) (t_span : Int32) (t_number : Int32) (t_fault : Int32) (t_faultAt : Int32) (t_word : Int64) (t_got : Int32) (t_limited : Int32) (t_hasLaw : Int32) (t_h : Nat → Int32) (t_names : Nat → Int64) (t_reserved : Nat → Int64) (t_tape : Nat → Int32) : Option (Bool × Int32 × Int32 × Int32 × Int32 × Int32 × Int32 × Int32 × Int64 × Int32 × Int32 × (Nat → Int32) × (Nat → Int64) × Int32) :=
  Option.bind (dn_X12_isWord t_token t_word 123581014175598) fun q1 =>
  if q1 = true then
    if (t_h (0 : Int32).toNatClampNeg) = 10 then
      Option.bind (dn_X12_bad t_at 4) fun q30 =>
      some (q30.1, q30.2.1, q30.2.2, t_hasLaw, t_p, t_at, t_span, t_token, t_word, t_number, t_got, t_h, t_names, t_limited)
    else
      Option.bind (dn_X12_skip t_size t_p t_limit t_token t_at t_span t_number t_word t_tape) fun q20 =>
      Option.bind (dn_X12_fresh t_size q20.1 t_limit q20.2.2.2.1 q20.2.1 q20.2.2.1 q20.2.2.2.2.2 t_fault t_faultAt q20.2.2.2.2.1 t_h t_names t_reserved t_tape ((40 : Int32) + (t_h (0 : Int32).toNatClampNeg))) fun q21 =>
      if q21.1 = true then
        Option.bind (dn_X12_takes t_size q21.2.2.2.2.1 t_limit q21.2.2.2.2.2.2.2.1 q21.2.2.2.2.2.1 q21.2.2.2.2.2.2.1 q21.2.2.2.2.2.2.2.2.2 q21.2.1 q21.2.2.1 q21.2.2.2.2.2.2.2.2.1 t_got t_tape 0 59) fun q23 =>
        if q23.1 = true then
          if inb ((4 : Int32) + (t_h (0 : Int32).toNatClampNeg)) 224 = true then
          Option.bind (dn_X12_takes t_size q23.2.2.1 t_limit q23.2.2.2.2.2.1 q23.2.2.2.1 q23.2.2.2.2.1 q23.2.2.2.2.2.2.2.1 q23.2.2.2.2.2.2.2.2.1 q23.2.2.2.2.2.2.2.2.2 q23.2.2.2.2.2.2.1 q23.2.1 t_tape q23.2.1 59) fun q26 =>
          if q26.1 = true then
            if inb ((14 : Int32) + (t_h (0 : Int32).toNatClampNeg)) 224 = true then
            if inb ((24 : Int32) + (t_h (0 : Int32).toNatClampNeg)) 224 = true then
            some (true, q26.2.2.2.2.2.2.2.2.1, q26.2.2.2.2.2.2.2.2.2, t_hasLaw, q26.2.2.1, q26.2.2.2.1, q26.2.2.2.2.1, q26.2.2.2.2.2.1, q26.2.2.2.2.2.2.1, q26.2.2.2.2.2.2.2.1, q26.2.1, upd (upd (upd (upd t_h ((4 : Int32) + (t_h (0 : Int32).toNatClampNeg)).toNatClampNeg q23.2.1) ((14 : Int32) + (t_h (0 : Int32).toNatClampNeg)).toNatClampNeg q26.2.1) ((24 : Int32) + (t_h (0 : Int32).toNatClampNeg)).toNatClampNeg 9) (0 : Int32).toNatClampNeg (((upd (upd (upd t_h ((4 : Int32) + (t_h (0 : Int32).toNatClampNeg)).toNatClampNeg q23.2.1) ((14 : Int32) + (t_h (0 : Int32).toNatClampNeg)).toNatClampNeg q26.2.1) ((24 : Int32) + (t_h (0 : Int32).toNatClampNeg)).toNatClampNeg 9) (0 : Int32).toNatClampNeg) + 1), q21.2.2.2.1, t_limited)
            else none
            else none
          else
            some (false, q26.2.2.2.2.2.2.2.2.1, q26.2.2.2.2.2.2.2.2.2, t_hasLaw, q26.2.2.1, q26.2.2.2.1, q26.2.2.2.2.1, q26.2.2.2.2.2.1, q26.2.2.2.2.2.2.1, q26.2.2.2.2.2.2.2.1, q26.2.1, upd t_h ((4 : Int32) + (t_h (0 : Int32).toNatClampNeg)).toNatClampNeg q23.2.1, q21.2.2.2.1, t_limited)
          else none
        else
          some (false, q23.2.2.2.2.2.2.2.2.1, q23.2.2.2.2.2.2.2.2.2, t_hasLaw, q23.2.2.1, q23.2.2.2.1, q23.2.2.2.2.1, q23.2.2.2.2.2.1, q23.2.2.2.2.2.2.1, q23.2.2.2.2.2.2.2.1, q23.2.1, t_h, q21.2.2.2.1, t_limited)
      else
        some (false, q21.2.1, q21.2.2.1, t_hasLaw, q21.2.2.2.2.1, q21.2.2.2.2.2.1, q21.2.2.2.2.2.2.1, q21.2.2.2.2.2.2.2.1, q21.2.2.2.2.2.2.2.2.1, q21.2.2.2.2.2.2.2.2.2, t_got, t_h, q21.2.2.2.1, t_limited)
  else
    Option.bind (dn_X12_isWord t_token t_word 465625246068) fun q3 =>
    if q3 = true then
      Option.bind (dn_X12_toldOf t_size t_p t_limit t_token t_at t_span t_number t_fault t_faultAt t_word t_got t_h t_names t_reserved t_tape t_limited) fun q14 =>
      if q14.1 = true then
        Option.bind (dn_X12_takes t_size q14.2.1 t_limit q14.2.2.2.2.1 q14.2.2.1 q14.2.2.2.1 q14.2.2.2.2.2.2.1 q14.2.2.2.2.2.2.2.2.1 q14.2.2.2.2.2.2.2.2.2 q14.2.2.2.2.2.1 q14.2.2.2.2.2.2.2.1 t_tape 0 9) fun q16 =>
        if q16.1 = true then
          if inb ((24 : Int32) + q14.2.2.2.2.2.2.2.1) 224 = true then
          some (true, q16.2.2.2.2.2.2.2.2.1, q16.2.2.2.2.2.2.2.2.2, t_hasLaw, q16.2.2.1, q16.2.2.2.1, q16.2.2.2.2.1, q16.2.2.2.2.2.1, q16.2.2.2.2.2.2.1, q16.2.2.2.2.2.2.2.1, q16.2.1, upd t_h ((24 : Int32) + q14.2.2.2.2.2.2.2.1).toNatClampNeg q16.2.1, t_names, t_limited ||| ((1 : Int32) <<< (q14.2.2.2.2.2.2.2.1 &&& 31)))
          else none
        else
          some (false, q16.2.2.2.2.2.2.2.2.1, q16.2.2.2.2.2.2.2.2.2, t_hasLaw, q16.2.2.1, q16.2.2.2.1, q16.2.2.2.2.1, q16.2.2.2.2.2.1, q16.2.2.2.2.2.2.1, q16.2.2.2.2.2.2.2.1, q16.2.1, t_h, t_names, t_limited ||| ((1 : Int32) <<< (q14.2.2.2.2.2.2.2.1 &&& 31)))
      else
        some (false, q14.2.2.2.2.2.2.2.2.1, q14.2.2.2.2.2.2.2.2.2, t_hasLaw, q14.2.1, q14.2.2.1, q14.2.2.2.1, q14.2.2.2.2.1, q14.2.2.2.2.2.1, q14.2.2.2.2.2.2.1, q14.2.2.2.2.2.2.2.1, t_h, t_names, t_limited)
    else
      Option.bind (dn_X12_isWord t_token t_word 1684365676) fun q5 =>
      if q5 = true then
        Option.bind (dn_X12_readDeal t_size t_p t_limit t_token t_at t_span t_number t_fault t_faultAt t_word t_got t_h t_names t_reserved t_tape) fun q13 =>
        some (q13.1, q13.2.2.2.2.2.2.2.1, q13.2.2.2.2.2.2.2.2.1, t_hasLaw, q13.2.1, q13.2.2.1, q13.2.2.2.1, q13.2.2.2.2.1, q13.2.2.2.2.2.1, q13.2.2.2.2.2.2.1, q13.2.2.2.2.2.2.2.2.2.2.1, q13.2.2.2.2.2.2.2.2.2.2.2, q13.2.2.2.2.2.2.2.2.2.1, t_limited)
      else
        Option.bind (dn_X12_isWord t_token t_word 7102839) fun q7 =>
        if q7 = true then
          Option.bind (dn_X12_readLaw t_size t_p t_limit t_token t_at t_span t_number t_fault t_faultAt t_word t_got t_hasLaw t_h t_tape) fun q12 =>
          some (q12.1, q12.2.2.2.2.2.2.2.2.2.1, q12.2.2.2.2.2.2.2.2.2.2.1, q12.2.1, q12.2.2.1, q12.2.2.2.1, q12.2.2.2.2.1, q12.2.2.2.2.2.1, q12.2.2.2.2.2.2.1, q12.2.2.2.2.2.2.2.1, q12.2.2.2.2.2.2.2.2.1, q12.2.2.2.2.2.2.2.2.2.2.2, t_names, t_limited)
        else
          Option.bind (dn_X12_isWord t_token t_word 1885434484) fun q9 =>
          if q9 = true then
            gn_X12_line_0 t_size t_limit t_reserved t_tape 0 0 t_fault t_faultAt t_hasLaw t_p t_at t_span t_token t_word t_number t_got t_h t_names t_limited
          else
            Option.bind (dn_X12_bad t_at 1) fun q11 =>
            some (q11.1, q11.2.1, q11.2.2, t_hasLaw, t_p, t_at, t_span, t_token, t_word, t_number, t_got, t_h, t_names, t_limited)
noncomputable def bd_X12_town_0 (t_reserved : Nat → Int64) (t_tape : Nat → Int32) (v1 : Int32) (t_thrown : Int32) (t_size : Int32) (t_length : Int32) (t_p : Int32) (t_limit : Int32) (t_fault : Int32) (t_lines : Int32) (t_limited : Int32) (t_hasLaw : Int32) (t_at : Int32) (t_span : Int32) (t_token : Int32) (t_word : Int64) (t_number : Int32) (t_h : Nat → Int32) (t_faultAt : Int32) (t_got : Int32) (t_names : Nat → Int64) (t_s : Nat → Int32) (t_stale : Int32) : Option (((Int32 × Int32 × Int32 × Int32 × Int32 × Int32 × Int32 × Int32 × Int32 × Int32 × Int32 × Int32 × Int32 × Int64 × Int32 × (Nat → Int32) × Int32 × Int32 × (Nat → Int64) × (Nat → Int32) × Int32) ⊕ ((Int32 × Int32 × Int32 × Int32 × Int32 × Int32 × Int32 × Int32 × Int32 × Int32 × Int32 × Int32 × Int64 × Int32 × (Nat → Int32) × Int32 × Int32 × (Nat → Int64) × (Nat → Int32) × Int32) ⊕ ((Int32 × Int32 × Int32 × Int32 × Int32 × Int32 × Int32 × Int32 × Int32 × Int32 × Int32 × Int32 × Int32 × Int64 × Int32 × (Nat → Int32) × Int32 × Int32 × (Nat → Int64) × (Nat → Int32) × Int32) ⊕ ((Int32 × Int32 × Int32 × Int32 × Int32 × Int32 × Int32 × Int32 × Int32 × Int32 × Int32 × Int32 × Int32 × Int64 × Int32 × (Nat → Int32) × Int32 × Int32 × (Nat → Int64) × (Nat → Int32) × Int32))))) ⊕ (Int32 × Int32 × Int32 × Int32 × Int32 × Int32 × Int32 × Int32 × Int32 × Int32 × Int32 × Int32 × Int32 × Int64 × Int32 × (Nat → Int32) × Int32 × Int32 × (Nat → Int64) × (Nat → Int32) × Int32)) :=
  if (224 : Int32) ≤ v1 then
    Option.bind (dn_X12_skip t_size t_p t_limit t_token t_at t_span t_number t_word t_tape) fun q3 =>
    some (.inl (.inr (.inl (t_thrown, t_size, t_length, q3.1, t_limit, t_fault, t_lines, t_limited, t_hasLaw, q3.2.1, q3.2.2.1, q3.2.2.2.1, q3.2.2.2.2.1, q3.2.2.2.2.2, t_h, t_faultAt, t_got, t_names, t_s, t_stale))))
  else
    if inb v1 224 = true then
    some (.inl (.inl (v1 + 1, t_thrown, t_size, t_length, t_p, t_limit, t_fault, t_lines, t_limited, t_hasLaw, t_at, t_span, t_token, t_word, t_number, upd t_h (v1).toNatClampNeg 0, t_faultAt, t_got, t_names, t_s, t_stale)))
    else none
noncomputable def bd_X12_town_1 (t_reserved : Nat → Int64) (t_tape : Nat → Int32) (t_thrown : Int32) (t_size : Int32) (t_length : Int32) (t_p : Int32) (t_limit : Int32) (t_fault : Int32) (t_lines : Int32) (t_limited : Int32) (t_hasLaw : Int32) (t_at : Int32) (t_span : Int32) (t_token : Int32) (t_word : Int64) (t_number : Int32) (t_h : Nat → Int32) (t_faultAt : Int32) (t_got : Int32) (t_names : Nat → Int64) (t_s : Nat → Int32) (t_stale : Int32) : Option (((Int32 × Int32 × Int32 × Int32 × Int32 × Int32 × Int32 × Int32 × Int32 × Int32 × Int32 × Int32 × Int32 × Int64 × Int32 × (Nat → Int32) × Int32 × Int32 × (Nat → Int64) × (Nat → Int32) × Int32) ⊕ ((Int32 × Int32 × Int32 × Int32 × Int32 × Int32 × Int32 × Int32 × Int32 × Int32 × Int32 × Int32 × Int64 × Int32 × (Nat → Int32) × Int32 × Int32 × (Nat → Int64) × (Nat → Int32) × Int32) ⊕ ((Int32 × Int32 × Int32 × Int32 × Int32 × Int32 × Int32 × Int32 × Int32 × Int32 × Int32 × Int32 × Int32 × Int64 × Int32 × (Nat → Int32) × Int32 × Int32 × (Nat → Int64) × (Nat → Int32) × Int32) ⊕ ((Int32 × Int32 × Int32 × Int32 × Int32 × Int32 × Int32 × Int32 × Int32 × Int32 × Int32 × Int32 × Int32 × Int64 × Int32 × (Nat → Int32) × Int32 × Int32 × (Nat → Int64) × (Nat → Int32) × Int32))))) ⊕ (Int32 × Int32 × Int32 × Int32 × Int32 × Int32 × Int32 × Int32 × Int32 × Int32 × Int32 × Int32 × Int32 × Int64 × Int32 × (Nat → Int32) × Int32 × Int32 × (Nat → Int64) × (Nat → Int32) × Int32)) :=
  if t_token = 0 then
    some (.inl (.inr (.inr (.inl (0, t_thrown, t_size, t_length, t_p, t_limit, t_fault, t_lines, t_limited, t_hasLaw, t_at, t_span, t_token, t_word, t_number, t_h, t_faultAt, t_got, t_names, t_s, t_stale)))))
  else
    Option.bind (dn_X12_line t_size t_p t_limit t_token t_at t_span t_number t_fault t_faultAt t_word t_got t_limited t_hasLaw t_h t_names t_reserved t_tape) fun q6 =>
    if q6.1 = true then
      Option.bind (dn_X12_sign t_size q6.2.2.2.2.1 t_limit q6.2.2.2.2.2.2.2.1 q6.2.2.2.2.2.1 q6.2.2.2.2.2.2.1 q6.2.2.2.2.2.2.2.2.2.1 q6.2.1 q6.2.2.1 q6.2.2.2.2.2.2.2.2.1 t_tape 59) fun q8 =>
      if q8.1 = true then
        some (.inl (.inr (.inl (t_thrown, t_size, t_length, q8.2.1, t_limit, q8.2.2.2.2.2.2.2.1, t_lines + 1, q6.2.2.2.2.2.2.2.2.2.2.2.2.2, q6.2.2.2.1, q8.2.2.1, q8.2.2.2.1, q8.2.2.2.2.1, q8.2.2.2.2.2.1, q8.2.2.2.2.2.2.1, q6.2.2.2.2.2.2.2.2.2.2.2.1, q8.2.2.2.2.2.2.2.2, q6.2.2.2.2.2.2.2.2.2.2.1, q6.2.2.2.2.2.2.2.2.2.2.2.2.1, t_s, t_stale))))
      else
        some (.inr (((-1) : Int32) - q8.2.2.2.2.2.2.2.2, t_thrown, t_size, t_length, q8.2.1, t_limit, q8.2.2.2.2.2.2.2.1, t_lines, q6.2.2.2.2.2.2.2.2.2.2.2.2.2, q6.2.2.2.1, q8.2.2.1, q8.2.2.2.1, q8.2.2.2.2.1, q8.2.2.2.2.2.1, q8.2.2.2.2.2.2.1, q6.2.2.2.2.2.2.2.2.2.2.2.1, q8.2.2.2.2.2.2.2.2, q6.2.2.2.2.2.2.2.2.2.2.1, q6.2.2.2.2.2.2.2.2.2.2.2.2.1, t_s, t_stale))
    else
      some (.inr (((-1) : Int32) - q6.2.2.1, t_thrown, t_size, t_length, q6.2.2.2.2.1, t_limit, q6.2.1, t_lines, q6.2.2.2.2.2.2.2.2.2.2.2.2.2, q6.2.2.2.1, q6.2.2.2.2.2.1, q6.2.2.2.2.2.2.1, q6.2.2.2.2.2.2.2.1, q6.2.2.2.2.2.2.2.2.1, q6.2.2.2.2.2.2.2.2.2.1, q6.2.2.2.2.2.2.2.2.2.2.2.1, q6.2.2.1, q6.2.2.2.2.2.2.2.2.2.2.1, q6.2.2.2.2.2.2.2.2.2.2.2.2.1, t_s, t_stale))
noncomputable def bd_X12_town_2 (t_reserved : Nat → Int64) (t_tape : Nat → Int32) (v1 : Int32) (t_thrown : Int32) (t_size : Int32) (t_length : Int32) (t_p : Int32) (t_limit : Int32) (t_fault : Int32) (t_lines : Int32) (t_limited : Int32) (t_hasLaw : Int32) (t_at : Int32) (t_span : Int32) (t_token : Int32) (t_word : Int64) (t_number : Int32) (t_h : Nat → Int32) (t_faultAt : Int32) (t_got : Int32) (t_names : Nat → Int64) (t_s : Nat → Int32) (t_stale : Int32) : Option (((Int32 × Int32 × Int32 × Int32 × Int32 × Int32 × Int32 × Int32 × Int32 × Int32 × Int32 × Int32 × Int32 × Int64 × Int32 × (Nat → Int32) × Int32 × Int32 × (Nat → Int64) × (Nat → Int32) × Int32) ⊕ ((Int32 × Int32 × Int32 × Int32 × Int32 × Int32 × Int32 × Int32 × Int32 × Int32 × Int32 × Int32 × Int64 × Int32 × (Nat → Int32) × Int32 × Int32 × (Nat → Int64) × (Nat → Int32) × Int32) ⊕ ((Int32 × Int32 × Int32 × Int32 × Int32 × Int32 × Int32 × Int32 × Int32 × Int32 × Int32 × Int32 × Int32 × Int64 × Int32 × (Nat → Int32) × Int32 × Int32 × (Nat → Int64) × (Nat → Int32) × Int32) ⊕ ((Int32 × Int32 × Int32 × Int32 × Int32 × Int32 × Int32 × Int32 × Int32 × Int32 × Int32 × Int32 × Int32 × Int64 × Int32 × (Nat → Int32) × Int32 × Int32 × (Nat → Int64) × (Nat → Int32) × Int32))))) ⊕ (Int32 × Int32 × Int32 × Int32 × Int32 × Int32 × Int32 × Int32 × Int32 × Int32 × Int32 × Int32 × Int32 × Int64 × Int32 × (Nat → Int32) × Int32 × Int32 × (Nat → Int64) × (Nat → Int32) × Int32)) :=
  if (284 : Int32) ≤ v1 then
    some (.inl (.inr (.inr (.inr ((0, t_thrown, t_size, t_length, t_p, t_limit, t_fault, t_lines, t_limited, t_hasLaw, t_at, t_span, t_token, t_word, t_number, t_h, t_faultAt, t_got, t_names, t_s, t_stale))))))
  else
    if (224 : Int32) ≤ v1 then
      if inb v1 284 = true then
      some (.inl (.inr (.inr (.inl (v1 + 1, t_thrown, t_size, t_length, t_p, t_limit, t_fault, t_lines, t_limited, t_hasLaw, t_at, t_span, t_token, t_word, t_number, t_h, t_faultAt, t_got, t_names, upd t_s (v1).toNatClampNeg 0, t_stale)))))
      else none
    else
      if inb v1 224 = true then
      if inb v1 284 = true then
      some (.inl (.inr (.inr (.inl (v1 + 1, t_thrown, t_size, t_length, t_p, t_limit, t_fault, t_lines, t_limited, t_hasLaw, t_at, t_span, t_token, t_word, t_number, t_h, t_faultAt, t_got, t_names, upd t_s (v1).toNatClampNeg (t_h (v1).toNatClampNeg), t_stale)))))
      else none
      else none
noncomputable def bd_X12_town_3 (t_reserved : Nat → Int64) (t_tape : Nat → Int32) (v1 : Int32) (t_thrown : Int32) (t_size : Int32) (t_length : Int32) (t_p : Int32) (t_limit : Int32) (t_fault : Int32) (t_lines : Int32) (t_limited : Int32) (t_hasLaw : Int32) (t_at : Int32) (t_span : Int32) (t_token : Int32) (t_word : Int64) (t_number : Int32) (t_h : Nat → Int32) (t_faultAt : Int32) (t_got : Int32) (t_names : Nat → Int64) (t_s : Nat → Int32) (t_stale : Int32) : Option (((Int32 × Int32 × Int32 × Int32 × Int32 × Int32 × Int32 × Int32 × Int32 × Int32 × Int32 × Int32 × Int32 × Int64 × Int32 × (Nat → Int32) × Int32 × Int32 × (Nat → Int64) × (Nat → Int32) × Int32) ⊕ ((Int32 × Int32 × Int32 × Int32 × Int32 × Int32 × Int32 × Int32 × Int32 × Int32 × Int32 × Int32 × Int64 × Int32 × (Nat → Int32) × Int32 × Int32 × (Nat → Int64) × (Nat → Int32) × Int32) ⊕ ((Int32 × Int32 × Int32 × Int32 × Int32 × Int32 × Int32 × Int32 × Int32 × Int32 × Int32 × Int32 × Int32 × Int64 × Int32 × (Nat → Int32) × Int32 × Int32 × (Nat → Int64) × (Nat → Int32) × Int32) ⊕ ((Int32 × Int32 × Int32 × Int32 × Int32 × Int32 × Int32 × Int32 × Int32 × Int32 × Int32 × Int32 × Int32 × Int64 × Int32 × (Nat → Int32) × Int32 × Int32 × (Nat → Int64) × (Nat → Int32) × Int32))))) ⊕ (Int32 × Int32 × Int32 × Int32 × Int32 × Int32 × Int32 × Int32 × Int32 × Int32 × Int32 × Int32 × Int32 × Int64 × Int32 × (Nat → Int32) × Int32 × Int32 × (Nat → Int64) × (Nat → Int32) × Int32)) :=
  if (40 : Int32) ≤ v1 then
    some (.inr (t_lines, t_thrown, t_size, t_length, t_p, t_limit, t_fault, t_lines, t_limited, t_hasLaw, t_at, t_span, t_token, t_word, t_number, t_h, t_faultAt, t_got, t_names, t_s, 1))
  else
    if inb ((40 : Int32) + v1) 80 = true then
    if inb v1 80 = true then
    some (.inl (.inr (.inr (.inr ((v1 + 1, t_thrown, t_size, t_length, t_p, t_limit, t_fault, t_lines, t_limited, t_hasLaw, t_at, t_span, t_token, t_word, t_number, t_h, t_faultAt, t_got, vp_updL t_names (v1).toNatClampNeg (t_names (((40 : Int32) + v1)).toNatClampNeg), t_s, t_stale))))))
    else none
    else none
noncomputable def st_X12_town (t_reserved : Nat → Int64) (t_tape : Nat → Int32) : ((Int32 × Int32 × Int32 × Int32 × Int32 × Int32 × Int32 × Int32 × Int32 × Int32 × Int32 × Int32 × Int32 × Int64 × Int32 × (Nat → Int32) × Int32 × Int32 × (Nat → Int64) × (Nat → Int32) × Int32) ⊕ ((Int32 × Int32 × Int32 × Int32 × Int32 × Int32 × Int32 × Int32 × Int32 × Int32 × Int32 × Int32 × Int64 × Int32 × (Nat → Int32) × Int32 × Int32 × (Nat → Int64) × (Nat → Int32) × Int32) ⊕ ((Int32 × Int32 × Int32 × Int32 × Int32 × Int32 × Int32 × Int32 × Int32 × Int32 × Int32 × Int32 × Int32 × Int64 × Int32 × (Nat → Int32) × Int32 × Int32 × (Nat → Int64) × (Nat → Int32) × Int32) ⊕ ((Int32 × Int32 × Int32 × Int32 × Int32 × Int32 × Int32 × Int32 × Int32 × Int32 × Int32 × Int32 × Int32 × Int64 × Int32 × (Nat → Int32) × Int32 × Int32 × (Nat → Int64) × (Nat → Int32) × Int32))))) → Option (((Int32 × Int32 × Int32 × Int32 × Int32 × Int32 × Int32 × Int32 × Int32 × Int32 × Int32 × Int32 × Int32 × Int64 × Int32 × (Nat → Int32) × Int32 × Int32 × (Nat → Int64) × (Nat → Int32) × Int32) ⊕ ((Int32 × Int32 × Int32 × Int32 × Int32 × Int32 × Int32 × Int32 × Int32 × Int32 × Int32 × Int32 × Int64 × Int32 × (Nat → Int32) × Int32 × Int32 × (Nat → Int64) × (Nat → Int32) × Int32) ⊕ ((Int32 × Int32 × Int32 × Int32 × Int32 × Int32 × Int32 × Int32 × Int32 × Int32 × Int32 × Int32 × Int32 × Int64 × Int32 × (Nat → Int32) × Int32 × Int32 × (Nat → Int64) × (Nat → Int32) × Int32) ⊕ ((Int32 × Int32 × Int32 × Int32 × Int32 × Int32 × Int32 × Int32 × Int32 × Int32 × Int32 × Int32 × Int32 × Int64 × Int32 × (Nat → Int32) × Int32 × Int32 × (Nat → Int64) × (Nat → Int32) × Int32))))) ⊕ (Int32 × Int32 × Int32 × Int32 × Int32 × Int32 × Int32 × Int32 × Int32 × Int32 × Int32 × Int32 × Int32 × Int64 × Int32 × (Nat → Int32) × Int32 × Int32 × (Nat → Int64) × (Nat → Int32) × Int32)) := fun s => match s with
  | .inl (v1, t_thrown, t_size, t_length, t_p, t_limit, t_fault, t_lines, t_limited, t_hasLaw, t_at, t_span, t_token, t_word, t_number, t_h, t_faultAt, t_got, t_names, t_s, t_stale) => bd_X12_town_0 t_reserved t_tape v1 t_thrown t_size t_length t_p t_limit t_fault t_lines t_limited t_hasLaw t_at t_span t_token t_word t_number t_h t_faultAt t_got t_names t_s t_stale
  | .inr (.inl (t_thrown, t_size, t_length, t_p, t_limit, t_fault, t_lines, t_limited, t_hasLaw, t_at, t_span, t_token, t_word, t_number, t_h, t_faultAt, t_got, t_names, t_s, t_stale)) => bd_X12_town_1 t_reserved t_tape t_thrown t_size t_length t_p t_limit t_fault t_lines t_limited t_hasLaw t_at t_span t_token t_word t_number t_h t_faultAt t_got t_names t_s t_stale
  | .inr (.inr (.inl (v1, t_thrown, t_size, t_length, t_p, t_limit, t_fault, t_lines, t_limited, t_hasLaw, t_at, t_span, t_token, t_word, t_number, t_h, t_faultAt, t_got, t_names, t_s, t_stale))) => bd_X12_town_2 t_reserved t_tape v1 t_thrown t_size t_length t_p t_limit t_fault t_lines t_limited t_hasLaw t_at t_span t_token t_word t_number t_h t_faultAt t_got t_names t_s t_stale
  | .inr (.inr (.inr ((v1, t_thrown, t_size, t_length, t_p, t_limit, t_fault, t_lines, t_limited, t_hasLaw, t_at, t_span, t_token, t_word, t_number, t_h, t_faultAt, t_got, t_names, t_s, t_stale)))) => bd_X12_town_3 t_reserved t_tape v1 t_thrown t_size t_length t_p t_limit t_fault t_lines t_limited t_hasLaw t_at t_span t_token t_word t_number t_h t_faultAt t_got t_names t_s t_stale
noncomputable def gn_X12_town_0 (t_reserved : Nat → Int64) (t_tape : Nat → Int32) (v1 : Int32) (t_thrown : Int32) (t_size : Int32) (t_length : Int32) (t_p : Int32) (t_limit : Int32) (t_fault : Int32) (t_lines : Int32) (t_limited : Int32) (t_hasLaw : Int32) (t_at : Int32) (t_span : Int32) (t_token : Int32) (t_word : Int64) (t_number : Int32) (t_h : Nat → Int32) (t_faultAt : Int32) (t_got : Int32) (t_names : Nat → Int64) (t_s : Nat → Int32) (t_stale : Int32) : Option (Int32 × Int32 × Int32 × Int32 × Int32 × Int32 × Int32 × Int32 × Int32 × Int32 × Int32 × Int32 × Int32 × Int64 × Int32 × (Nat → Int32) × Int32 × Int32 × (Nat → Int64) × (Nat → Int32) × Int32) := lpC (st_X12_town t_reserved t_tape) (.inl (v1, t_thrown, t_size, t_length, t_p, t_limit, t_fault, t_lines, t_limited, t_hasLaw, t_at, t_span, t_token, t_word, t_number, t_h, t_faultAt, t_got, t_names, t_s, t_stale))
noncomputable def gn_X12_town_1 (t_reserved : Nat → Int64) (t_tape : Nat → Int32) (t_thrown : Int32) (t_size : Int32) (t_length : Int32) (t_p : Int32) (t_limit : Int32) (t_fault : Int32) (t_lines : Int32) (t_limited : Int32) (t_hasLaw : Int32) (t_at : Int32) (t_span : Int32) (t_token : Int32) (t_word : Int64) (t_number : Int32) (t_h : Nat → Int32) (t_faultAt : Int32) (t_got : Int32) (t_names : Nat → Int64) (t_s : Nat → Int32) (t_stale : Int32) : Option (Int32 × Int32 × Int32 × Int32 × Int32 × Int32 × Int32 × Int32 × Int32 × Int32 × Int32 × Int32 × Int32 × Int64 × Int32 × (Nat → Int32) × Int32 × Int32 × (Nat → Int64) × (Nat → Int32) × Int32) := lpC (st_X12_town t_reserved t_tape) (.inr (.inl (t_thrown, t_size, t_length, t_p, t_limit, t_fault, t_lines, t_limited, t_hasLaw, t_at, t_span, t_token, t_word, t_number, t_h, t_faultAt, t_got, t_names, t_s, t_stale)))
noncomputable def gn_X12_town_2 (t_reserved : Nat → Int64) (t_tape : Nat → Int32) (v1 : Int32) (t_thrown : Int32) (t_size : Int32) (t_length : Int32) (t_p : Int32) (t_limit : Int32) (t_fault : Int32) (t_lines : Int32) (t_limited : Int32) (t_hasLaw : Int32) (t_at : Int32) (t_span : Int32) (t_token : Int32) (t_word : Int64) (t_number : Int32) (t_h : Nat → Int32) (t_faultAt : Int32) (t_got : Int32) (t_names : Nat → Int64) (t_s : Nat → Int32) (t_stale : Int32) : Option (Int32 × Int32 × Int32 × Int32 × Int32 × Int32 × Int32 × Int32 × Int32 × Int32 × Int32 × Int32 × Int32 × Int64 × Int32 × (Nat → Int32) × Int32 × Int32 × (Nat → Int64) × (Nat → Int32) × Int32) := lpC (st_X12_town t_reserved t_tape) (.inr (.inr (.inl (v1, t_thrown, t_size, t_length, t_p, t_limit, t_fault, t_lines, t_limited, t_hasLaw, t_at, t_span, t_token, t_word, t_number, t_h, t_faultAt, t_got, t_names, t_s, t_stale))))
noncomputable def gn_X12_town_3 (t_reserved : Nat → Int64) (t_tape : Nat → Int32) (v1 : Int32) (t_thrown : Int32) (t_size : Int32) (t_length : Int32) (t_p : Int32) (t_limit : Int32) (t_fault : Int32) (t_lines : Int32) (t_limited : Int32) (t_hasLaw : Int32) (t_at : Int32) (t_span : Int32) (t_token : Int32) (t_word : Int64) (t_number : Int32) (t_h : Nat → Int32) (t_faultAt : Int32) (t_got : Int32) (t_names : Nat → Int64) (t_s : Nat → Int32) (t_stale : Int32) : Option (Int32 × Int32 × Int32 × Int32 × Int32 × Int32 × Int32 × Int32 × Int32 × Int32 × Int32 × Int32 × Int32 × Int64 × Int32 × (Nat → Int32) × Int32 × Int32 × (Nat → Int64) × (Nat → Int32) × Int32) := lpC (st_X12_town t_reserved t_tape) (.inr (.inr (.inr ((v1, t_thrown, t_size, t_length, t_p, t_limit, t_fault, t_lines, t_limited, t_hasLaw, t_at, t_span, t_token, t_word, t_number, t_h, t_faultAt, t_got, t_names, t_s, t_stale)))))
theorem gq_X12_town_0 (t_reserved : Nat → Int64) (t_tape : Nat → Int32) (v1 : Int32) (t_thrown : Int32) (t_size : Int32) (t_length : Int32) (t_p : Int32) (t_limit : Int32) (t_fault : Int32) (t_lines : Int32) (t_limited : Int32) (t_hasLaw : Int32) (t_at : Int32) (t_span : Int32) (t_token : Int32) (t_word : Int64) (t_number : Int32) (t_h : Nat → Int32) (t_faultAt : Int32) (t_got : Int32) (t_names : Nat → Int64) (t_s : Nat → Int32) (t_stale : Int32) : gn_X12_town_0 t_reserved t_tape v1 t_thrown t_size t_length t_p t_limit t_fault t_lines t_limited t_hasLaw t_at t_span t_token t_word t_number t_h t_faultAt t_got t_names t_s t_stale =
    if (224 : Int32) ≤ v1 then
      Option.bind (dn_X12_skip t_size t_p t_limit t_token t_at t_span t_number t_word t_tape) fun q3 =>
      gn_X12_town_1 t_reserved t_tape t_thrown t_size t_length q3.1 t_limit t_fault t_lines t_limited t_hasLaw q3.2.1 q3.2.2.1 q3.2.2.2.1 q3.2.2.2.2.1 q3.2.2.2.2.2 t_h t_faultAt t_got t_names t_s t_stale
    else
      if inb v1 224 = true then
      gn_X12_town_0 t_reserved t_tape (v1 + 1) t_thrown t_size t_length t_p t_limit t_fault t_lines t_limited t_hasLaw t_at t_span t_token t_word t_number (upd t_h (v1).toNatClampNeg 0) t_faultAt t_got t_names t_s t_stale
      else none := by
  rw [gn_X12_town_0, lpC_eq]
  show lpO _ (bd_X12_town_0 t_reserved t_tape v1 t_thrown t_size t_length t_p t_limit t_fault t_lines t_limited t_hasLaw t_at t_span t_token t_word t_number t_h t_faultAt t_got t_names t_s t_stale) = _
  unfold bd_X12_town_0
  simp only [lpO_ite, lpO_bind, lpO_none, lpO_l, lpO_r]
  try rfl
theorem gq_X12_town_1 (t_reserved : Nat → Int64) (t_tape : Nat → Int32) (t_thrown : Int32) (t_size : Int32) (t_length : Int32) (t_p : Int32) (t_limit : Int32) (t_fault : Int32) (t_lines : Int32) (t_limited : Int32) (t_hasLaw : Int32) (t_at : Int32) (t_span : Int32) (t_token : Int32) (t_word : Int64) (t_number : Int32) (t_h : Nat → Int32) (t_faultAt : Int32) (t_got : Int32) (t_names : Nat → Int64) (t_s : Nat → Int32) (t_stale : Int32) : gn_X12_town_1 t_reserved t_tape t_thrown t_size t_length t_p t_limit t_fault t_lines t_limited t_hasLaw t_at t_span t_token t_word t_number t_h t_faultAt t_got t_names t_s t_stale =
    if t_token = 0 then
      gn_X12_town_2 t_reserved t_tape 0 t_thrown t_size t_length t_p t_limit t_fault t_lines t_limited t_hasLaw t_at t_span t_token t_word t_number t_h t_faultAt t_got t_names t_s t_stale
    else
      Option.bind (dn_X12_line t_size t_p t_limit t_token t_at t_span t_number t_fault t_faultAt t_word t_got t_limited t_hasLaw t_h t_names t_reserved t_tape) fun q6 =>
      if q6.1 = true then
        Option.bind (dn_X12_sign t_size q6.2.2.2.2.1 t_limit q6.2.2.2.2.2.2.2.1 q6.2.2.2.2.2.1 q6.2.2.2.2.2.2.1 q6.2.2.2.2.2.2.2.2.2.1 q6.2.1 q6.2.2.1 q6.2.2.2.2.2.2.2.2.1 t_tape 59) fun q8 =>
        if q8.1 = true then
          gn_X12_town_1 t_reserved t_tape t_thrown t_size t_length q8.2.1 t_limit q8.2.2.2.2.2.2.2.1 (t_lines + 1) q6.2.2.2.2.2.2.2.2.2.2.2.2.2 q6.2.2.2.1 q8.2.2.1 q8.2.2.2.1 q8.2.2.2.2.1 q8.2.2.2.2.2.1 q8.2.2.2.2.2.2.1 q6.2.2.2.2.2.2.2.2.2.2.2.1 q8.2.2.2.2.2.2.2.2 q6.2.2.2.2.2.2.2.2.2.2.1 q6.2.2.2.2.2.2.2.2.2.2.2.2.1 t_s t_stale
        else
          some (((-1) : Int32) - q8.2.2.2.2.2.2.2.2, t_thrown, t_size, t_length, q8.2.1, t_limit, q8.2.2.2.2.2.2.2.1, t_lines, q6.2.2.2.2.2.2.2.2.2.2.2.2.2, q6.2.2.2.1, q8.2.2.1, q8.2.2.2.1, q8.2.2.2.2.1, q8.2.2.2.2.2.1, q8.2.2.2.2.2.2.1, q6.2.2.2.2.2.2.2.2.2.2.2.1, q8.2.2.2.2.2.2.2.2, q6.2.2.2.2.2.2.2.2.2.2.1, q6.2.2.2.2.2.2.2.2.2.2.2.2.1, t_s, t_stale)
      else
        some (((-1) : Int32) - q6.2.2.1, t_thrown, t_size, t_length, q6.2.2.2.2.1, t_limit, q6.2.1, t_lines, q6.2.2.2.2.2.2.2.2.2.2.2.2.2, q6.2.2.2.1, q6.2.2.2.2.2.1, q6.2.2.2.2.2.2.1, q6.2.2.2.2.2.2.2.1, q6.2.2.2.2.2.2.2.2.1, q6.2.2.2.2.2.2.2.2.2.1, q6.2.2.2.2.2.2.2.2.2.2.2.1, q6.2.2.1, q6.2.2.2.2.2.2.2.2.2.2.1, q6.2.2.2.2.2.2.2.2.2.2.2.2.1, t_s, t_stale) := by
  rw [gn_X12_town_1, lpC_eq]
  show lpO _ (bd_X12_town_1 t_reserved t_tape t_thrown t_size t_length t_p t_limit t_fault t_lines t_limited t_hasLaw t_at t_span t_token t_word t_number t_h t_faultAt t_got t_names t_s t_stale) = _
  unfold bd_X12_town_1
  simp only [lpO_ite, lpO_bind, lpO_none, lpO_l, lpO_r]
  try rfl
theorem gq_X12_town_2 (t_reserved : Nat → Int64) (t_tape : Nat → Int32) (v1 : Int32) (t_thrown : Int32) (t_size : Int32) (t_length : Int32) (t_p : Int32) (t_limit : Int32) (t_fault : Int32) (t_lines : Int32) (t_limited : Int32) (t_hasLaw : Int32) (t_at : Int32) (t_span : Int32) (t_token : Int32) (t_word : Int64) (t_number : Int32) (t_h : Nat → Int32) (t_faultAt : Int32) (t_got : Int32) (t_names : Nat → Int64) (t_s : Nat → Int32) (t_stale : Int32) : gn_X12_town_2 t_reserved t_tape v1 t_thrown t_size t_length t_p t_limit t_fault t_lines t_limited t_hasLaw t_at t_span t_token t_word t_number t_h t_faultAt t_got t_names t_s t_stale =
    if (284 : Int32) ≤ v1 then
      gn_X12_town_3 t_reserved t_tape 0 t_thrown t_size t_length t_p t_limit t_fault t_lines t_limited t_hasLaw t_at t_span t_token t_word t_number t_h t_faultAt t_got t_names t_s t_stale
    else
      if (224 : Int32) ≤ v1 then
        if inb v1 284 = true then
        gn_X12_town_2 t_reserved t_tape (v1 + 1) t_thrown t_size t_length t_p t_limit t_fault t_lines t_limited t_hasLaw t_at t_span t_token t_word t_number t_h t_faultAt t_got t_names (upd t_s (v1).toNatClampNeg 0) t_stale
        else none
      else
        if inb v1 224 = true then
        if inb v1 284 = true then
        gn_X12_town_2 t_reserved t_tape (v1 + 1) t_thrown t_size t_length t_p t_limit t_fault t_lines t_limited t_hasLaw t_at t_span t_token t_word t_number t_h t_faultAt t_got t_names (upd t_s (v1).toNatClampNeg (t_h (v1).toNatClampNeg)) t_stale
        else none
        else none := by
  rw [gn_X12_town_2, lpC_eq]
  show lpO _ (bd_X12_town_2 t_reserved t_tape v1 t_thrown t_size t_length t_p t_limit t_fault t_lines t_limited t_hasLaw t_at t_span t_token t_word t_number t_h t_faultAt t_got t_names t_s t_stale) = _
  unfold bd_X12_town_2
  simp only [lpO_ite, lpO_bind, lpO_none, lpO_l, lpO_r]
  try rfl
theorem gq_X12_town_3 (t_reserved : Nat → Int64) (t_tape : Nat → Int32) (v1 : Int32) (t_thrown : Int32) (t_size : Int32) (t_length : Int32) (t_p : Int32) (t_limit : Int32) (t_fault : Int32) (t_lines : Int32) (t_limited : Int32) (t_hasLaw : Int32) (t_at : Int32) (t_span : Int32) (t_token : Int32) (t_word : Int64) (t_number : Int32) (t_h : Nat → Int32) (t_faultAt : Int32) (t_got : Int32) (t_names : Nat → Int64) (t_s : Nat → Int32) (t_stale : Int32) : gn_X12_town_3 t_reserved t_tape v1 t_thrown t_size t_length t_p t_limit t_fault t_lines t_limited t_hasLaw t_at t_span t_token t_word t_number t_h t_faultAt t_got t_names t_s t_stale =
    if (40 : Int32) ≤ v1 then
      some (t_lines, t_thrown, t_size, t_length, t_p, t_limit, t_fault, t_lines, t_limited, t_hasLaw, t_at, t_span, t_token, t_word, t_number, t_h, t_faultAt, t_got, t_names, t_s, 1)
    else
      if inb ((40 : Int32) + v1) 80 = true then
      if inb v1 80 = true then
      gn_X12_town_3 t_reserved t_tape (v1 + 1) t_thrown t_size t_length t_p t_limit t_fault t_lines t_limited t_hasLaw t_at t_span t_token t_word t_number t_h t_faultAt t_got (vp_updL t_names (v1).toNatClampNeg (t_names (((40 : Int32) + v1)).toNatClampNeg)) t_s t_stale
      else none
      else none := by
  rw [gn_X12_town_3, lpC_eq]
  show lpO _ (bd_X12_town_3 t_reserved t_tape v1 t_thrown t_size t_length t_p t_limit t_fault t_lines t_limited t_hasLaw t_at t_span t_token t_word t_number t_h t_faultAt t_got t_names t_s t_stale) = _
  unfold bd_X12_town_3
  simp only [lpO_ite, lpO_bind, lpO_none, lpO_l, lpO_r]
  try rfl
noncomputable def dn_X12_town (t_length : Int32) (t_token : Int32) (t_at : Int32) (t_span : Int32) (t_number : Int32) (t_faultAt : Int32) (t_word : Int64) (t_got : Int32) (t_stale : Int32) (t_h : Nat → Int32) (t_names : Nat → Int64) (t_reserved : Nat → Int64) (t_s : Nat → Int32) (t_tape : Nat → Int32) : Option (Int32 × Int32 × Int32 × Int32 × Int32 × Int32 × Int32 × Int32 × Int32 × Int32 × Int32 × Int32 × Int32 × Int64 × Int32 × (Nat → Int32) × Int32 × Int32 × (Nat → Int64) × (Nat → Int32) × Int32) :=
  Option.bind (dn_X12_taken t_length 900) fun q1 =>
  gn_X12_town_0 t_reserved t_tape 0 0 q1.1 q1.2.1 q1.2.2.1 q1.2.2.2 0 0 0 0 t_at t_span t_token t_word t_number t_h t_faultAt t_got t_names t_s t_stale
noncomputable def dn_X12_fault (t_fault : Int32) : Option (Int32 × Int32) :=
  some (t_fault, 0)
noncomputable def dn_X12_isPerson (t_s : Nat → Int32) (p1 : Int32) : Option (Bool) :=
  Option.bind (dn_X12_isIn p1 0 ((t_s (0 : Int32).toNatClampNeg) - 1)) fun q1 =>
  some q1
noncomputable def dn_X12_isDeal (t_s : Nat → Int32) (p1 : Int32) : Option (Bool) :=
  Option.bind (dn_X12_isIn p1 0 ((t_s (1 : Int32).toNatClampNeg) - 1)) fun q1 =>
  some q1
noncomputable def dn_X12_isParts (t_s : Nat → Int32) (p1 : Int32) : Option (Bool) :=
  Option.bind (dn_X12_isIn p1 0 (((1 : Int32) <<< ((t_s (0 : Int32).toNatClampNeg) &&& 31)) - 1)) fun q1 =>
  some q1
noncomputable def dn_X12_of (t_s : Nat → Int32) (p1 : Int32) (p2 : Int32) : Option (Int32) :=
  if inb (((44 : Int32) + ((6 : Int32) * p1)) + p2) 284 = true then
  some (t_s ((((44 : Int32) + ((6 : Int32) * p1)) + p2)).toNatClampNeg)
  else none
noncomputable def bd_X12_person_0 (t_s : Nat → Int32) (p1 : Int32) (p2 : Int32) (k1 : Int32) (t_thrown : Int32) : Option (((Int32 × Int32)) ⊕ (Int32 × Int32)) :=
  Option.bind (dn_X12_throwsIf k1) fun q5 =>
  if q5.1 = true then
    some (.inr (0, q5.2))
  else
    if p2 = 0 then
      if inb ((4 : Int32) + p1) 284 = true then
      some (.inr (t_s (((4 : Int32) + p1)).toNatClampNeg, q5.2))
      else none
    else
      if p2 = 1 then
        if inb ((14 : Int32) + p1) 284 = true then
        some (.inr (t_s (((14 : Int32) + p1)).toNatClampNeg, q5.2))
        else none
      else
        if p2 = 2 then
          if inb ((24 : Int32) + p1) 284 = true then
          some (.inr (t_s (((24 : Int32) + p1)).toNatClampNeg, q5.2))
          else none
        else
          if inb ((34 : Int32) + p1) 284 = true then
          if (t_s (((34 : Int32) + p1)).toNatClampNeg) = 2 then
            some (.inr (1, q5.2))
          else
            some (.inr (0, q5.2))
          else none
noncomputable def st_X12_person (t_s : Nat → Int32) (p1 : Int32) (p2 : Int32) : ((Int32 × Int32)) → Option (((Int32 × Int32)) ⊕ (Int32 × Int32)) := fun s => match s with
  | (k1, t_thrown) => bd_X12_person_0 t_s p1 p2 k1 t_thrown
noncomputable def gn_X12_person_0 (t_s : Nat → Int32) (p1 : Int32) (p2 : Int32) (k1 : Int32) (t_thrown : Int32) : Option (Int32 × Int32) := lpC (st_X12_person t_s p1 p2) ((k1, t_thrown))
theorem gq_X12_person_0 (t_s : Nat → Int32) (p1 : Int32) (p2 : Int32) (k1 : Int32) (t_thrown : Int32) : gn_X12_person_0 t_s p1 p2 k1 t_thrown =
    Option.bind (dn_X12_throwsIf k1) fun q5 =>
    if q5.1 = true then
      some (0, q5.2)
    else
      if p2 = 0 then
        if inb ((4 : Int32) + p1) 284 = true then
        some (t_s (((4 : Int32) + p1)).toNatClampNeg, q5.2)
        else none
      else
        if p2 = 1 then
          if inb ((14 : Int32) + p1) 284 = true then
          some (t_s (((14 : Int32) + p1)).toNatClampNeg, q5.2)
          else none
        else
          if p2 = 2 then
            if inb ((24 : Int32) + p1) 284 = true then
            some (t_s (((24 : Int32) + p1)).toNatClampNeg, q5.2)
            else none
          else
            if inb ((34 : Int32) + p1) 284 = true then
            if (t_s (((34 : Int32) + p1)).toNatClampNeg) = 2 then
              some (1, q5.2)
            else
              some (0, q5.2)
            else none := by
  rw [gn_X12_person_0, lpC_eq]
  show lpO _ (bd_X12_person_0 t_s p1 p2 k1 t_thrown) = _
  unfold bd_X12_person_0
  simp only [lpO_ite, lpO_bind, lpO_none, lpO_l, lpO_r]
  try rfl
noncomputable def dn_X12_person (t_thrown : Int32) (t_s : Nat → Int32) (p1 : Int32) (p2 : Int32) : Option (Int32 × Int32) :=
  Option.bind (dn_X12_isPerson t_s p1) fun q1 =>
  if q1 = true then
    Option.bind (dn_X12_isIn p2 0 3) fun q3 =>
    if q3 = true then
      gn_X12_person_0 t_s p1 p2 0 t_thrown
    else
      gn_X12_person_0 t_s p1 p2 1 t_thrown
  else
    gn_X12_person_0 t_s p1 p2 1 t_thrown
noncomputable def bd_X12_doneAs_0 (t_s : Nat → Int32) (p1 : Int32) (v2 : Int32) : Option (((Int32)) ⊕ (Int32)) :=
  if (t_s (3 : Int32).toNatClampNeg) ≤ v2 then
    some (.inr 0)
  else
    if inb ((224 : Int32) + v2) 284 = true then
    if (t_s (((224 : Int32) + v2)).toNatClampNeg) = p1 then
      if inb ((254 : Int32) + v2) 284 = true then
      some (.inr ((1 : Int32) + (t_s (((254 : Int32) + v2)).toNatClampNeg)))
      else none
    else
      some (.inl (v2 + 1))
    else none
noncomputable def st_X12_doneAs (t_s : Nat → Int32) (p1 : Int32) : ((Int32)) → Option (((Int32)) ⊕ (Int32)) := fun s => match s with
  | v2 => bd_X12_doneAs_0 t_s p1 v2
noncomputable def gn_X12_doneAs_0 (t_s : Nat → Int32) (p1 : Int32) (v2 : Int32) : Option (Int32) := lpC (st_X12_doneAs t_s p1) (v2)
theorem gq_X12_doneAs_0 (t_s : Nat → Int32) (p1 : Int32) (v2 : Int32) : gn_X12_doneAs_0 t_s p1 v2 =
    if (t_s (3 : Int32).toNatClampNeg) ≤ v2 then
      some 0
    else
      if inb ((224 : Int32) + v2) 284 = true then
      if (t_s (((224 : Int32) + v2)).toNatClampNeg) = p1 then
        if inb ((254 : Int32) + v2) 284 = true then
        some ((1 : Int32) + (t_s (((254 : Int32) + v2)).toNatClampNeg))
        else none
      else
        gn_X12_doneAs_0 t_s p1 (v2 + 1)
      else none := by
  rw [gn_X12_doneAs_0, lpC_eq]
  show lpO _ (bd_X12_doneAs_0 t_s p1 v2) = _
  unfold bd_X12_doneAs_0
  simp only [lpO_ite, lpO_bind, lpO_none, lpO_l, lpO_r]
  try rfl
noncomputable def dn_X12_doneAs (t_s : Nat → Int32) (p1 : Int32) : Option (Int32) :=
  gn_X12_doneAs_0 t_s p1 0
noncomputable def bd_X12_deal_0 (t_s : Nat → Int32) (p1 : Int32) (p2 : Int32) (k1 : Int32) (t_thrown : Int32) : Option (((Int32 × Int32)) ⊕ (Int32 × Int32)) :=
  Option.bind (dn_X12_throwsIf k1) fun q5 =>
  if q5.1 = true then
    some (.inr (0, q5.2))
  else
    if (6 : Int32) ≤ p2 then
      Option.bind (dn_X12_doneAs t_s p1) fun q8 =>
      some (.inr (q8, q5.2))
    else
      Option.bind (dn_X12_of t_s p1 p2) fun q9 =>
      some (.inr (q9, q5.2))
noncomputable def st_X12_deal (t_s : Nat → Int32) (p1 : Int32) (p2 : Int32) : ((Int32 × Int32)) → Option (((Int32 × Int32)) ⊕ (Int32 × Int32)) := fun s => match s with
  | (k1, t_thrown) => bd_X12_deal_0 t_s p1 p2 k1 t_thrown
noncomputable def gn_X12_deal_0 (t_s : Nat → Int32) (p1 : Int32) (p2 : Int32) (k1 : Int32) (t_thrown : Int32) : Option (Int32 × Int32) := lpC (st_X12_deal t_s p1 p2) ((k1, t_thrown))
theorem gq_X12_deal_0 (t_s : Nat → Int32) (p1 : Int32) (p2 : Int32) (k1 : Int32) (t_thrown : Int32) : gn_X12_deal_0 t_s p1 p2 k1 t_thrown =
    Option.bind (dn_X12_throwsIf k1) fun q5 =>
    if q5.1 = true then
      some (0, q5.2)
    else
      if (6 : Int32) ≤ p2 then
        Option.bind (dn_X12_doneAs t_s p1) fun q8 =>
        some (q8, q5.2)
      else
        Option.bind (dn_X12_of t_s p1 p2) fun q9 =>
        some (q9, q5.2) := by
  rw [gn_X12_deal_0, lpC_eq]
  show lpO _ (bd_X12_deal_0 t_s p1 p2 k1 t_thrown) = _
  unfold bd_X12_deal_0
  simp only [lpO_ite, lpO_bind, lpO_none, lpO_l, lpO_r]
  try rfl
noncomputable def dn_X12_deal (t_thrown : Int32) (t_s : Nat → Int32) (p1 : Int32) (p2 : Int32) : Option (Int32 × Int32) :=
  Option.bind (dn_X12_isDeal t_s p1) fun q1 =>
  if q1 = true then
    Option.bind (dn_X12_isIn p2 0 6) fun q3 =>
    if q3 = true then
      gn_X12_deal_0 t_s p1 p2 0 t_thrown
    else
      gn_X12_deal_0 t_s p1 p2 1 t_thrown
  else
    gn_X12_deal_0 t_s p1 p2 1 t_thrown
noncomputable def dn_X12_lender (t_s : Nat → Int32) (p1 : Int32) (p2 : Int32) : Option (Int32) :=
  Option.bind (dn_X12_of t_s p1 p2) fun q1 =>
  some q1
noncomputable def dn_X12_borrower (t_s : Nat → Int32) (p1 : Int32) (p2 : Int32) : Option (Int32) :=
  Option.bind (dn_X12_of t_s p1 ((1 : Int32) - p2)) fun q1 =>
  some q1
noncomputable def dn_X12_now (t_boundAs : Nat → Int32) (t_boundFrom : Nat → Int32) (t_s : Nat → Int32) (p1 : Int32) (p2 : Int32) : Option (Int32) :=
  if inb p1 10 = true then
  if (t_boundAs (p1).toNatClampNeg) ≤ 0 then
    some 0
  else
    if (t_s (2 : Int32).toNatClampNeg) = 0 then
      if inb p1 10 = true then
      some (t_boundAs (p1).toNatClampNeg)
      else none
    else
      if inb p1 10 = true then
      if ((t_boundFrom (p1).toNatClampNeg) + (t_s (2 : Int32).toNatClampNeg)) ≤ p2 then
        some 0
      else
        if inb p1 10 = true then
        some (t_boundAs (p1).toNatClampNeg)
        else none
      else none
  else none
noncomputable def dn_X12_bound (t_boundAs : Nat → Int32) (t_boundFrom : Nat → Int32) (t_s : Nat → Int32) (p1 : Int32) (p2 : Int32) (p3 : Int32) : Option ((Nat → Int32) × (Nat → Int32)) :=
  Option.bind (dn_X12_now t_boundAs t_boundFrom t_s p1 p2) fun q1 =>
  if q1 ≤ 0 then
    if inb p1 10 = true then
    if inb p1 10 = true then
    some (upd t_boundAs (p1).toNatClampNeg p3, upd t_boundFrom (p1).toNatClampNeg p2)
    else none
    else none
  else
    some (t_boundAs, t_boundFrom)
noncomputable def bd_X12_bind_0 (t_s : Nat → Int32) (p1 : Int32) (v2 : Int32) (t_boundAs : Nat → Int32) (t_boundFrom : Nat → Int32) : Option (((Int32 × (Nat → Int32) × (Nat → Int32)) ⊕ ((Int32 × (Nat → Int32) × (Nat → Int32)))) ⊕ ((Nat → Int32) × (Nat → Int32))) :=
  if (10 : Int32) ≤ v2 then
    some (.inl (.inr ((0, t_boundAs, t_boundFrom))))
  else
    if inb v2 10 = true then
    some (.inl (.inl (v2 + 1, upd t_boundAs (v2).toNatClampNeg 0, t_boundFrom)))
    else none
noncomputable def bd_X12_bind_1 (t_s : Nat → Int32) (p1 : Int32) (v2 : Int32) (t_boundAs : Nat → Int32) (t_boundFrom : Nat → Int32) : Option (((Int32 × (Nat → Int32) × (Nat → Int32)) ⊕ ((Int32 × (Nat → Int32) × (Nat → Int32)))) ⊕ ((Nat → Int32) × (Nat → Int32))) :=
  if (t_s (3 : Int32).toNatClampNeg) ≤ v2 then
    some (.inr (t_boundAs, t_boundFrom))
  else
    if inb ((224 : Int32) + v2) 284 = true then
    Option.bind (dn_X12_of t_s (t_s (((224 : Int32) + v2)).toNatClampNeg) 2) fun q5 =>
    if q5 ≤ p1 then
      if inb ((254 : Int32) + v2) 284 = true then
      Option.bind (dn_X12_lender t_s (t_s (((224 : Int32) + v2)).toNatClampNeg) (t_s (((254 : Int32) + v2)).toNatClampNeg)) fun q8 =>
      Option.bind (dn_X12_of t_s (t_s (((224 : Int32) + v2)).toNatClampNeg) 2) fun q9 =>
      Option.bind (dn_X12_bound t_boundAs t_boundFrom t_s q8 q9 1) fun q10 =>
      if inb ((254 : Int32) + v2) 284 = true then
      Option.bind (dn_X12_borrower t_s (t_s (((224 : Int32) + v2)).toNatClampNeg) (t_s (((254 : Int32) + v2)).toNatClampNeg)) fun q12 =>
      Option.bind (dn_X12_of t_s (t_s (((224 : Int32) + v2)).toNatClampNeg) 2) fun q13 =>
      Option.bind (dn_X12_bound q10.1 q10.2 t_s q12 q13 2) fun q14 =>
      some (.inl (.inr ((v2 + 1, q14.1, q14.2))))
      else none
      else none
    else
      some (.inl (.inr ((v2 + 1, t_boundAs, t_boundFrom))))
    else none
noncomputable def st_X12_bind (t_s : Nat → Int32) (p1 : Int32) : ((Int32 × (Nat → Int32) × (Nat → Int32)) ⊕ ((Int32 × (Nat → Int32) × (Nat → Int32)))) → Option (((Int32 × (Nat → Int32) × (Nat → Int32)) ⊕ ((Int32 × (Nat → Int32) × (Nat → Int32)))) ⊕ ((Nat → Int32) × (Nat → Int32))) := fun s => match s with
  | .inl (v2, t_boundAs, t_boundFrom) => bd_X12_bind_0 t_s p1 v2 t_boundAs t_boundFrom
  | .inr ((v2, t_boundAs, t_boundFrom)) => bd_X12_bind_1 t_s p1 v2 t_boundAs t_boundFrom
noncomputable def gn_X12_bind_0 (t_s : Nat → Int32) (p1 : Int32) (v2 : Int32) (t_boundAs : Nat → Int32) (t_boundFrom : Nat → Int32) : Option ((Nat → Int32) × (Nat → Int32)) := lpC (st_X12_bind t_s p1) (.inl (v2, t_boundAs, t_boundFrom))
noncomputable def gn_X12_bind_1 (t_s : Nat → Int32) (p1 : Int32) (v2 : Int32) (t_boundAs : Nat → Int32) (t_boundFrom : Nat → Int32) : Option ((Nat → Int32) × (Nat → Int32)) := lpC (st_X12_bind t_s p1) (.inr ((v2, t_boundAs, t_boundFrom)))
theorem gq_X12_bind_0 (t_s : Nat → Int32) (p1 : Int32) (v2 : Int32) (t_boundAs : Nat → Int32) (t_boundFrom : Nat → Int32) : gn_X12_bind_0 t_s p1 v2 t_boundAs t_boundFrom =
    if (10 : Int32) ≤ v2 then
      gn_X12_bind_1 t_s p1 0 t_boundAs t_boundFrom
    else
      if inb v2 10 = true then
      gn_X12_bind_0 t_s p1 (v2 + 1) (upd t_boundAs (v2).toNatClampNeg 0) t_boundFrom
      else none := by
  rw [gn_X12_bind_0, lpC_eq]
  show lpO _ (bd_X12_bind_0 t_s p1 v2 t_boundAs t_boundFrom) = _
  unfold bd_X12_bind_0
  simp only [lpO_ite, lpO_bind, lpO_none, lpO_l, lpO_r]
  try rfl
theorem gq_X12_bind_1 (t_s : Nat → Int32) (p1 : Int32) (v2 : Int32) (t_boundAs : Nat → Int32) (t_boundFrom : Nat → Int32) : gn_X12_bind_1 t_s p1 v2 t_boundAs t_boundFrom =
    if (t_s (3 : Int32).toNatClampNeg) ≤ v2 then
      some (t_boundAs, t_boundFrom)
    else
      if inb ((224 : Int32) + v2) 284 = true then
      Option.bind (dn_X12_of t_s (t_s (((224 : Int32) + v2)).toNatClampNeg) 2) fun q5 =>
      if q5 ≤ p1 then
        if inb ((254 : Int32) + v2) 284 = true then
        Option.bind (dn_X12_lender t_s (t_s (((224 : Int32) + v2)).toNatClampNeg) (t_s (((254 : Int32) + v2)).toNatClampNeg)) fun q8 =>
        Option.bind (dn_X12_of t_s (t_s (((224 : Int32) + v2)).toNatClampNeg) 2) fun q9 =>
        Option.bind (dn_X12_bound t_boundAs t_boundFrom t_s q8 q9 1) fun q10 =>
        if inb ((254 : Int32) + v2) 284 = true then
        Option.bind (dn_X12_borrower t_s (t_s (((224 : Int32) + v2)).toNatClampNeg) (t_s (((254 : Int32) + v2)).toNatClampNeg)) fun q12 =>
        Option.bind (dn_X12_of t_s (t_s (((224 : Int32) + v2)).toNatClampNeg) 2) fun q13 =>
        Option.bind (dn_X12_bound q10.1 q10.2 t_s q12 q13 2) fun q14 =>
        gn_X12_bind_1 t_s p1 (v2 + 1) q14.1 q14.2
        else none
        else none
      else
        gn_X12_bind_1 t_s p1 (v2 + 1) t_boundAs t_boundFrom
      else none := by
  rw [gn_X12_bind_1, lpC_eq]
  show lpO _ (bd_X12_bind_1 t_s p1 v2 t_boundAs t_boundFrom) = _
  unfold bd_X12_bind_1
  simp only [lpO_ite, lpO_bind, lpO_none, lpO_l, lpO_r]
  try rfl
noncomputable def dn_X12_bind (t_boundAs : Nat → Int32) (t_boundFrom : Nat → Int32) (t_s : Nat → Int32) (p1 : Int32) : Option ((Nat → Int32) × (Nat → Int32)) :=
  gn_X12_bind_0 t_s p1 0 t_boundAs t_boundFrom
noncomputable def bd_X12_didIn_0 (t_s : Nat → Int32) (p1 : Int32) (p2 : Int32) (v3 : Int32) (v4 : Int32) : Option (((Int32 × Int32)) ⊕ (Int32)) :=
  if (t_s (3 : Int32).toNatClampNeg) ≤ v4 then
    some (.inr v3)
  else
    if inb ((224 : Int32) + v4) 284 = true then
    Option.bind (dn_X12_of t_s (t_s (((224 : Int32) + v4)).toNatClampNeg) 2) fun q3 =>
    if q3 = p2 then
      Option.bind (dn_X12_of t_s (t_s (((224 : Int32) + v4)).toNatClampNeg) 0) fun q5 =>
      if q5 = p1 then
        some (.inl (v3 + 1, v4 + 1))
      else
        Option.bind (dn_X12_of t_s (t_s (((224 : Int32) + v4)).toNatClampNeg) 1) fun q7 =>
        if q7 = p1 then
          some (.inl (v3 + 1, v4 + 1))
        else
          some (.inl (v3 + 0, v4 + 1))
    else
      some (.inl (v3 + 0, v4 + 1))
    else none
noncomputable def st_X12_didIn (t_s : Nat → Int32) (p1 : Int32) (p2 : Int32) : ((Int32 × Int32)) → Option (((Int32 × Int32)) ⊕ (Int32)) := fun s => match s with
  | (v3, v4) => bd_X12_didIn_0 t_s p1 p2 v3 v4
noncomputable def gn_X12_didIn_0 (t_s : Nat → Int32) (p1 : Int32) (p2 : Int32) (v3 : Int32) (v4 : Int32) : Option (Int32) := lpC (st_X12_didIn t_s p1 p2) ((v3, v4))
theorem gq_X12_didIn_0 (t_s : Nat → Int32) (p1 : Int32) (p2 : Int32) (v3 : Int32) (v4 : Int32) : gn_X12_didIn_0 t_s p1 p2 v3 v4 =
    if (t_s (3 : Int32).toNatClampNeg) ≤ v4 then
      some v3
    else
      if inb ((224 : Int32) + v4) 284 = true then
      Option.bind (dn_X12_of t_s (t_s (((224 : Int32) + v4)).toNatClampNeg) 2) fun q3 =>
      if q3 = p2 then
        Option.bind (dn_X12_of t_s (t_s (((224 : Int32) + v4)).toNatClampNeg) 0) fun q5 =>
        if q5 = p1 then
          gn_X12_didIn_0 t_s p1 p2 (v3 + 1) (v4 + 1)
        else
          Option.bind (dn_X12_of t_s (t_s (((224 : Int32) + v4)).toNatClampNeg) 1) fun q7 =>
          if q7 = p1 then
            gn_X12_didIn_0 t_s p1 p2 (v3 + 1) (v4 + 1)
          else
            gn_X12_didIn_0 t_s p1 p2 (v3 + 0) (v4 + 1)
      else
        gn_X12_didIn_0 t_s p1 p2 (v3 + 0) (v4 + 1)
      else none := by
  rw [gn_X12_didIn_0, lpC_eq]
  show lpO _ (bd_X12_didIn_0 t_s p1 p2 v3 v4) = _
  unfold bd_X12_didIn_0
  simp only [lpO_ite, lpO_bind, lpO_none, lpO_l, lpO_r]
  try rfl
noncomputable def dn_X12_didIn (t_s : Nat → Int32) (p1 : Int32) (p2 : Int32) : Option (Int32) :=
  gn_X12_didIn_0 t_s p1 p2 0 0
noncomputable def bd_X12_wrong_0 (t_s : Nat → Int32) (p1 : Int32) (p2 : Int32) (v3 : Int32) (t_boundAs : Nat → Int32) (t_boundFrom : Nat → Int32) : Option (((Int32 × (Nat → Int32) × (Nat → Int32)) ⊕ ((Int32 × (Nat → Int32) × (Nat → Int32)))) ⊕ (Int32 × (Nat → Int32) × (Nat → Int32))) :=
  if (t_s (3 : Int32).toNatClampNeg) ≤ 0 then
    some (.inl (.inr ((v3, t_boundAs, t_boundFrom))))
  else
    if inb (((224 : Int32) + (t_s (3 : Int32).toNatClampNeg)) - 1) 284 = true then
    Option.bind (dn_X12_of t_s (t_s ((((224 : Int32) + (t_s (3 : Int32).toNatClampNeg)) - 1)).toNatClampNeg) 2) fun q9 =>
    if q9 ≤ v3 then
      some (.inl (.inr ((v3, t_boundAs, t_boundFrom))))
    else
      some (.inr (3, t_boundAs, t_boundFrom))
    else none
noncomputable def bd_X12_wrong_1 (t_s : Nat → Int32) (p1 : Int32) (p2 : Int32) (v3 : Int32) (t_boundAs : Nat → Int32) (t_boundFrom : Nat → Int32) : Option (((Int32 × (Nat → Int32) × (Nat → Int32)) ⊕ ((Int32 × (Nat → Int32) × (Nat → Int32)))) ⊕ (Int32 × (Nat → Int32) × (Nat → Int32))) :=
  Option.bind (dn_X12_bind t_boundAs t_boundFrom t_s v3) fun q11 =>
  Option.bind (dn_X12_lender t_s p1 p2) fun q12 =>
  Option.bind (dn_X12_now q11.1 q11.2 t_s q12 v3) fun q13 =>
  if q13 = 2 then
    some (.inr (4, q11.1, q11.2))
  else
    Option.bind (dn_X12_borrower t_s p1 p2) fun q15 =>
    Option.bind (dn_X12_now q11.1 q11.2 t_s q15 v3) fun q16 =>
    if q16 = 1 then
      some (.inr (5, q11.1, q11.2))
    else
      Option.bind (dn_X12_of t_s p1 0) fun q18 =>
      Option.bind (dn_X12_didIn t_s q18 v3) fun q19 =>
      Option.bind (dn_X12_of t_s p1 0) fun q20 =>
      if inb ((24 : Int32) + q20) 284 = true then
      if (t_s (((24 : Int32) + q20)).toNatClampNeg) ≤ q19 then
        some (.inr (6, q11.1, q11.2))
      else
        Option.bind (dn_X12_of t_s p1 1) fun q23 =>
        Option.bind (dn_X12_didIn t_s q23 v3) fun q24 =>
        Option.bind (dn_X12_of t_s p1 1) fun q25 =>
        if inb ((24 : Int32) + q25) 284 = true then
        if q24 < (t_s (((24 : Int32) + q25)).toNatClampNeg) then
          some (.inr (0, q11.1, q11.2))
        else
          some (.inr (6, q11.1, q11.2))
        else none
      else none
noncomputable def st_X12_wrong (t_s : Nat → Int32) (p1 : Int32) (p2 : Int32) : ((Int32 × (Nat → Int32) × (Nat → Int32)) ⊕ ((Int32 × (Nat → Int32) × (Nat → Int32)))) → Option (((Int32 × (Nat → Int32) × (Nat → Int32)) ⊕ ((Int32 × (Nat → Int32) × (Nat → Int32)))) ⊕ (Int32 × (Nat → Int32) × (Nat → Int32))) := fun s => match s with
  | .inl (v3, t_boundAs, t_boundFrom) => bd_X12_wrong_0 t_s p1 p2 v3 t_boundAs t_boundFrom
  | .inr ((v3, t_boundAs, t_boundFrom)) => bd_X12_wrong_1 t_s p1 p2 v3 t_boundAs t_boundFrom
noncomputable def gn_X12_wrong_0 (t_s : Nat → Int32) (p1 : Int32) (p2 : Int32) (v3 : Int32) (t_boundAs : Nat → Int32) (t_boundFrom : Nat → Int32) : Option (Int32 × (Nat → Int32) × (Nat → Int32)) := lpC (st_X12_wrong t_s p1 p2) (.inl (v3, t_boundAs, t_boundFrom))
noncomputable def gn_X12_wrong_1 (t_s : Nat → Int32) (p1 : Int32) (p2 : Int32) (v3 : Int32) (t_boundAs : Nat → Int32) (t_boundFrom : Nat → Int32) : Option (Int32 × (Nat → Int32) × (Nat → Int32)) := lpC (st_X12_wrong t_s p1 p2) (.inr ((v3, t_boundAs, t_boundFrom)))
theorem gq_X12_wrong_0 (t_s : Nat → Int32) (p1 : Int32) (p2 : Int32) (v3 : Int32) (t_boundAs : Nat → Int32) (t_boundFrom : Nat → Int32) : gn_X12_wrong_0 t_s p1 p2 v3 t_boundAs t_boundFrom =
    if (t_s (3 : Int32).toNatClampNeg) ≤ 0 then
      gn_X12_wrong_1 t_s p1 p2 v3 t_boundAs t_boundFrom
    else
      if inb (((224 : Int32) + (t_s (3 : Int32).toNatClampNeg)) - 1) 284 = true then
      Option.bind (dn_X12_of t_s (t_s ((((224 : Int32) + (t_s (3 : Int32).toNatClampNeg)) - 1)).toNatClampNeg) 2) fun q9 =>
      if q9 ≤ v3 then
        gn_X12_wrong_1 t_s p1 p2 v3 t_boundAs t_boundFrom
      else
        some (3, t_boundAs, t_boundFrom)
      else none := by
  rw [gn_X12_wrong_0, lpC_eq]
  show lpO _ (bd_X12_wrong_0 t_s p1 p2 v3 t_boundAs t_boundFrom) = _
  unfold bd_X12_wrong_0
  simp only [lpO_ite, lpO_bind, lpO_none, lpO_l, lpO_r]
  try rfl
theorem gq_X12_wrong_1 (t_s : Nat → Int32) (p1 : Int32) (p2 : Int32) (v3 : Int32) (t_boundAs : Nat → Int32) (t_boundFrom : Nat → Int32) : gn_X12_wrong_1 t_s p1 p2 v3 t_boundAs t_boundFrom =
    Option.bind (dn_X12_bind t_boundAs t_boundFrom t_s v3) fun q11 =>
    Option.bind (dn_X12_lender t_s p1 p2) fun q12 =>
    Option.bind (dn_X12_now q11.1 q11.2 t_s q12 v3) fun q13 =>
    if q13 = 2 then
      some (4, q11.1, q11.2)
    else
      Option.bind (dn_X12_borrower t_s p1 p2) fun q15 =>
      Option.bind (dn_X12_now q11.1 q11.2 t_s q15 v3) fun q16 =>
      if q16 = 1 then
        some (5, q11.1, q11.2)
      else
        Option.bind (dn_X12_of t_s p1 0) fun q18 =>
        Option.bind (dn_X12_didIn t_s q18 v3) fun q19 =>
        Option.bind (dn_X12_of t_s p1 0) fun q20 =>
        if inb ((24 : Int32) + q20) 284 = true then
        if (t_s (((24 : Int32) + q20)).toNatClampNeg) ≤ q19 then
          some (6, q11.1, q11.2)
        else
          Option.bind (dn_X12_of t_s p1 1) fun q23 =>
          Option.bind (dn_X12_didIn t_s q23 v3) fun q24 =>
          Option.bind (dn_X12_of t_s p1 1) fun q25 =>
          if inb ((24 : Int32) + q25) 284 = true then
          if q24 < (t_s (((24 : Int32) + q25)).toNatClampNeg) then
            some (0, q11.1, q11.2)
          else
            some (6, q11.1, q11.2)
          else none
        else none := by
  rw [gn_X12_wrong_1, lpC_eq]
  show lpO _ (bd_X12_wrong_1 t_s p1 p2 v3 t_boundAs t_boundFrom) = _
  unfold bd_X12_wrong_1
  simp only [lpO_ite, lpO_bind, lpO_none, lpO_l, lpO_r]
  try rfl
noncomputable def dn_X12_wrong (t_boundAs : Nat → Int32) (t_boundFrom : Nat → Int32) (t_s : Nat → Int32) (p1 : Int32) (p2 : Int32) : Option (Int32 × (Nat → Int32) × (Nat → Int32)) :=
  Option.bind (dn_X12_of t_s p1 2) fun q1 =>
  Option.bind (dn_X12_doneAs t_s p1) fun q2 =>
  if q2 ≤ 0 then
    if p2 = 1 then
      Option.bind (dn_X12_of t_s p1 5) fun q5 =>
      if q5 = 0 then
        some (2, t_boundAs, t_boundFrom)
      else
        gn_X12_wrong_0 t_s p1 p2 q1 t_boundAs t_boundFrom
    else
      gn_X12_wrong_0 t_s p1 p2 q1 t_boundAs t_boundFrom
  else
    some (1, t_boundAs, t_boundFrom)
noncomputable def dn_X12_put (t_s : Nat → Int32) (p1 : Int32) (p2 : Int32) : Option ((Nat → Int32)) :=
  if inb ((224 : Int32) + (t_s (3 : Int32).toNatClampNeg)) 284 = true then
  if inb ((254 : Int32) + ((upd t_s ((224 : Int32) + (t_s (3 : Int32).toNatClampNeg)).toNatClampNeg p1) (3 : Int32).toNatClampNeg)) 284 = true then
  some (upd (upd (upd t_s ((224 : Int32) + (t_s (3 : Int32).toNatClampNeg)).toNatClampNeg p1) ((254 : Int32) + ((upd t_s ((224 : Int32) + (t_s (3 : Int32).toNatClampNeg)).toNatClampNeg p1) (3 : Int32).toNatClampNeg)).toNatClampNeg p2) (3 : Int32).toNatClampNeg (((upd (upd t_s ((224 : Int32) + (t_s (3 : Int32).toNatClampNeg)).toNatClampNeg p1) ((254 : Int32) + ((upd t_s ((224 : Int32) + (t_s (3 : Int32).toNatClampNeg)).toNatClampNeg p1) (3 : Int32).toNatClampNeg)).toNatClampNeg p2) (3 : Int32).toNatClampNeg) + 1))
  else none
  else none
