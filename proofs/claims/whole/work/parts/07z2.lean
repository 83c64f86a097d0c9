noncomputable def bd_J7_fill_53178_0 (len_p1 : Nat) (p2 : Int32) (v2 : Int32) (v3 : Int32) (p1 : Nat → Int32) : Option (((Int32 × Int32 × (Nat → Int32))) ⊕ ((Nat → Int32))) :=
  if v3 ≤ v2 then
    some (.inr p1)
  else
    if inb v2 len_p1 = true then
    some (.inl (v2 + 1, v3, upd p1 (v2).toNatClampNeg p2))
    else none
noncomputable def st_J7_fill_53178 (len_p1 : Nat) (p2 : Int32) : ((Int32 × Int32 × (Nat → Int32))) → Option (((Int32 × Int32 × (Nat → Int32))) ⊕ ((Nat → Int32))) := fun s => match s with
  | (v2, v3, p1) => bd_J7_fill_53178_0 len_p1 p2 v2 v3 p1
noncomputable def gn_J7_fill_53178_0 (len_p1 : Nat) (p2 : Int32) (v2 : Int32) (v3 : Int32) (p1 : Nat → Int32) : Option ((Nat → Int32)) := lpC (st_J7_fill_53178 len_p1 p2) ((v2, v3, p1))
theorem gq_J7_fill_53178_0 (len_p1 : Nat) (p2 : Int32) (v2 : Int32) (v3 : Int32) (p1 : Nat → Int32) : gn_J7_fill_53178_0 len_p1 p2 v2 v3 p1 =
    if v3 ≤ v2 then
      some p1
    else
      if inb v2 len_p1 = true then
      gn_J7_fill_53178_0 len_p1 p2 (v2 + 1) v3 (upd p1 (v2).toNatClampNeg p2)
      else none := by
  rw [gn_J7_fill_53178_0, lpC_eq]
  show lpO _ (bd_J7_fill_53178_0 len_p1 p2 v2 v3 p1) = _
  unfold bd_J7_fill_53178_0
  simp only [lpO_ite, lpO_bind, lpO_none, lpO_l, lpO_r]
  try rfl
noncomputable def dn_J7_fill_53178 (len_p1 : Nat) (p1 : Nat → Int32) (p2 : Int32) : Option ((Nat → Int32)) :=
  gn_J7_fill_53178_0 len_p1 p2 0 (Int32.ofNat len_p1) p1
noncomputable def dn_X9_startReading (t_size : Int32) (p1 : Int32) : Option (Int32 × Int32) :=
  some (0, (if p1 < t_size then p1 else t_size))
noncomputable def bd_X9_readWordOrNumber_0 (t_size : Int32) (t_bytes : Nat → Int32) (v1 : Int32) (v2 : Int32) (t_number : Int32) (t_name : Int64) (t_position : Int32) (t_token : Int32) : Option (((Int32 × Int32 × Int32 × Int64 × Int32 × Int32) ⊕ ((Int32 × Int32 × Int32 × Int64 × Int32 × Int32) ⊕ ((Int32 × Int32 × Int32 × Int32 × Int64 × Int32 × Int32) ⊕ ((Int32 × Int32 × Int32 × Int32 × Int64 × Int32 × Int32) ⊕ ((Int32 × Int32 × Int32 × Int64 × Int32 × Int32)))))) ⊕ (Int32 × Int64 × Int32 × Int32)) :=
  if t_size ≤ t_position then
    some (.inl (.inr (.inl (v1, v2, t_number, t_name, t_position, t_token))))
  else
    if inb t_position 940 = true then
    if (t_bytes (t_position).toNatClampNeg) < 97 then
      some (.inl (.inr (.inr (.inl (v1, v2, t_bytes (t_position).toNatClampNeg, t_number, t_name, t_position, t_token)))))
    else
      if (122 : Int32) < (t_bytes (t_position).toNatClampNeg) then
        some (.inl (.inr (.inr (.inl (v1, v2, t_bytes (t_position).toNatClampNeg, t_number, t_name, t_position, t_token)))))
      else
        some (.inl (.inl (v1 + 1, v2, t_number, (t_name * 32) + (Int32.toInt64 (((t_bytes (t_position).toNatClampNeg) - 97) + 1)), t_position + 1, t_token)))
    else none
noncomputable def bd_X9_readWordOrNumber_1 (t_size : Int32) (t_bytes : Nat → Int32) (v1 : Int32) (v2 : Int32) (t_number : Int32) (t_name : Int64) (t_position : Int32) (t_token : Int32) : Option (((Int32 × Int32 × Int32 × Int64 × Int32 × Int32) ⊕ ((Int32 × Int32 × Int32 × Int64 × Int32 × Int32) ⊕ ((Int32 × Int32 × Int32 × Int32 × Int64 × Int32 × Int32) ⊕ ((Int32 × Int32 × Int32 × Int32 × Int64 × Int32 × Int32) ⊕ ((Int32 × Int32 × Int32 × Int64 × Int32 × Int32)))))) ⊕ (Int32 × Int64 × Int32 × Int32)) :=
  if v2 = 0 then
    if (7 : Int32) < v1 then
      some (.inl (.inr (.inr (.inr (.inl (v1, v2, 0, t_number, t_name, t_position, t_token))))))
    else
      some (.inl (.inr (.inr (.inr (.inl (v1, v2, 1, t_number, t_name, t_position, t_token))))))
  else
    some (.inl (.inr (.inr (.inr (.inl (v1, v2, 0, t_number, t_name, t_position, t_token))))))
noncomputable def bd_X9_readWordOrNumber_2 (t_size : Int32) (t_bytes : Nat → Int32) (v1 : Int32) (v2 : Int32) (v3 : Int32) (t_number : Int32) (t_name : Int64) (t_position : Int32) (t_token : Int32) : Option (((Int32 × Int32 × Int32 × Int64 × Int32 × Int32) ⊕ ((Int32 × Int32 × Int32 × Int64 × Int32 × Int32) ⊕ ((Int32 × Int32 × Int32 × Int32 × Int64 × Int32 × Int32) ⊕ ((Int32 × Int32 × Int32 × Int32 × Int64 × Int32 × Int32) ⊕ ((Int32 × Int32 × Int32 × Int64 × Int32 × Int32)))))) ⊕ (Int32 × Int64 × Int32 × Int32)) :=
  if v3 < 48 then
    some (.inl (.inr (.inl (v1, v2, t_number, t_name, t_position, t_token))))
  else
    if (57 : Int32) < v3 then
      some (.inl (.inr (.inl (v1, v2, t_number, t_name, t_position, t_token))))
    else
      some (.inl (.inl (v1, v2 + 1, (t_number * 10) + (v3 - 48), t_name, t_position + 1, t_token)))
noncomputable def bd_X9_readWordOrNumber_3 (t_size : Int32) (t_bytes : Nat → Int32) (v1 : Int32) (v2 : Int32) (k0 : Int32) (t_number : Int32) (t_name : Int64) (t_position : Int32) (t_token : Int32) : Option (((Int32 × Int32 × Int32 × Int64 × Int32 × Int32) ⊕ ((Int32 × Int32 × Int32 × Int64 × Int32 × Int32) ⊕ ((Int32 × Int32 × Int32 × Int32 × Int64 × Int32 × Int32) ⊕ ((Int32 × Int32 × Int32 × Int32 × Int64 × Int32 × Int32) ⊕ ((Int32 × Int32 × Int32 × Int64 × Int32 × Int32)))))) ⊕ (Int32 × Int64 × Int32 × Int32)) :=
  if v1 = 0 then
    if (2 : Int32) < v2 then
      some (.inl (.inr (.inr (.inr (.inr ((k0, 0, t_number, t_name, t_position, t_token)))))))
    else
      some (.inl (.inr (.inr (.inr (.inr ((k0, 1, t_number, t_name, t_position, t_token)))))))
  else
    some (.inl (.inr (.inr (.inr (.inr ((k0, 0, t_number, t_name, t_position, t_token)))))))
noncomputable def bd_X9_readWordOrNumber_4 (t_size : Int32) (t_bytes : Nat → Int32) (v3 : Int32) (k0 : Int32) (t_number : Int32) (t_name : Int64) (t_position : Int32) (t_token : Int32) : Option (((Int32 × Int32 × Int32 × Int64 × Int32 × Int32) ⊕ ((Int32 × Int32 × Int32 × Int64 × Int32 × Int32) ⊕ ((Int32 × Int32 × Int32 × Int32 × Int64 × Int32 × Int32) ⊕ ((Int32 × Int32 × Int32 × Int32 × Int64 × Int32 × Int32) ⊕ ((Int32 × Int32 × Int32 × Int64 × Int32 × Int32)))))) ⊕ (Int32 × Int64 × Int32 × Int32)) :=
  if v3 = 0 then
    if k0 = 0 then
      some (.inr (t_number, t_name, t_position, 4))
    else
      some (.inr (t_number, t_name, t_position, 2))
  else
    some (.inr (t_number, t_name, t_position, 1))
noncomputable def st_X9_readWordOrNumber (t_size : Int32) (t_bytes : Nat → Int32) : ((Int32 × Int32 × Int32 × Int64 × Int32 × Int32) ⊕ ((Int32 × Int32 × Int32 × Int64 × Int32 × Int32) ⊕ ((Int32 × Int32 × Int32 × Int32 × Int64 × Int32 × Int32) ⊕ ((Int32 × Int32 × Int32 × Int32 × Int64 × Int32 × Int32) ⊕ ((Int32 × Int32 × Int32 × Int64 × Int32 × Int32)))))) → Option (((Int32 × Int32 × Int32 × Int64 × Int32 × Int32) ⊕ ((Int32 × Int32 × Int32 × Int64 × Int32 × Int32) ⊕ ((Int32 × Int32 × Int32 × Int32 × Int64 × Int32 × Int32) ⊕ ((Int32 × Int32 × Int32 × Int32 × Int64 × Int32 × Int32) ⊕ ((Int32 × Int32 × Int32 × Int64 × Int32 × Int32)))))) ⊕ (Int32 × Int64 × Int32 × Int32)) := fun s => match s with
  | .inl (v1, v2, t_number, t_name, t_position, t_token) => bd_X9_readWordOrNumber_0 t_size t_bytes v1 v2 t_number t_name t_position t_token
  | .inr (.inl (v1, v2, t_number, t_name, t_position, t_token)) => bd_X9_readWordOrNumber_1 t_size t_bytes v1 v2 t_number t_name t_position t_token
  | .inr (.inr (.inl (v1, v2, v3, t_number, t_name, t_position, t_token))) => bd_X9_readWordOrNumber_2 t_size t_bytes v1 v2 v3 t_number t_name t_position t_token
  | .inr (.inr (.inr (.inl (v1, v2, k0, t_number, t_name, t_position, t_token)))) => bd_X9_readWordOrNumber_3 t_size t_bytes v1 v2 k0 t_number t_name t_position t_token
  | .inr (.inr (.inr (.inr ((v3, k0, t_number, t_name, t_position, t_token))))) => bd_X9_readWordOrNumber_4 t_size t_bytes v3 k0 t_number t_name t_position t_token
noncomputable def gn_X9_readWordOrNumber_0 (t_size : Int32) (t_bytes : Nat → Int32) (v1 : Int32) (v2 : Int32) (t_number : Int32) (t_name : Int64) (t_position : Int32) (t_token : Int32) : Option (Int32 × Int64 × Int32 × Int32) := lpC (st_X9_readWordOrNumber t_size t_bytes) (.inl (v1, v2, t_number, t_name, t_position, t_token))
noncomputable def gn_X9_readWordOrNumber_1 (t_size : Int32) (t_bytes : Nat → Int32) (v1 : Int32) (v2 : Int32) (t_number : Int32) (t_name : Int64) (t_position : Int32) (t_token : Int32) : Option (Int32 × Int64 × Int32 × Int32) := lpC (st_X9_readWordOrNumber t_size t_bytes) (.inr (.inl (v1, v2, t_number, t_name, t_position, t_token)))
noncomputable def gn_X9_readWordOrNumber_2 (t_size : Int32) (t_bytes : Nat → Int32) (v1 : Int32) (v2 : Int32) (v3 : Int32) (t_number : Int32) (t_name : Int64) (t_position : Int32) (t_token : Int32) : Option (Int32 × Int64 × Int32 × Int32) := lpC (st_X9_readWordOrNumber t_size t_bytes) (.inr (.inr (.inl (v1, v2, v3, t_number, t_name, t_position, t_token))))
noncomputable def gn_X9_readWordOrNumber_3 (t_size : Int32) (t_bytes : Nat → Int32) (v1 : Int32) (v2 : Int32) (k0 : Int32) (t_number : Int32) (t_name : Int64) (t_position : Int32) (t_token : Int32) : Option (Int32 × Int64 × Int32 × Int32) := lpC (st_X9_readWordOrNumber t_size t_bytes) (.inr (.inr (.inr (.inl (v1, v2, k0, t_number, t_name, t_position, t_token)))))
noncomputable def gn_X9_readWordOrNumber_4 (t_size : Int32) (t_bytes : Nat → Int32) (v3 : Int32) (k0 : Int32) (t_number : Int32) (t_name : Int64) (t_position : Int32) (t_token : Int32) : Option (Int32 × Int64 × Int32 × Int32) := lpC (st_X9_readWordOrNumber t_size t_bytes) (.inr (.inr (.inr (.inr ((v3, k0, t_number, t_name, t_position, t_token))))))
theorem gq_X9_readWordOrNumber_0 (t_size : Int32) (t_bytes : Nat → Int32) (v1 : Int32) (v2 : Int32) (t_number : Int32) (t_name : Int64) (t_position : Int32) (t_token : Int32) : gn_X9_readWordOrNumber_0 t_size t_bytes v1 v2 t_number t_name t_position t_token =
    if t_size ≤ t_position then
      gn_X9_readWordOrNumber_1 t_size t_bytes v1 v2 t_number t_name t_position t_token
    else
      if inb t_position 940 = true then
      if (t_bytes (t_position).toNatClampNeg) < 97 then
        gn_X9_readWordOrNumber_2 t_size t_bytes v1 v2 (t_bytes (t_position).toNatClampNeg) t_number t_name t_position t_token
      else
        if (122 : Int32) < (t_bytes (t_position).toNatClampNeg) then
          gn_X9_readWordOrNumber_2 t_size t_bytes v1 v2 (t_bytes (t_position).toNatClampNeg) t_number t_name t_position t_token
        else
          gn_X9_readWordOrNumber_0 t_size t_bytes (v1 + 1) v2 t_number ((t_name * 32) + (Int32.toInt64 (((t_bytes (t_position).toNatClampNeg) - 97) + 1))) (t_position + 1) t_token
      else none := by
  rw [gn_X9_readWordOrNumber_0, lpC_eq]
  show lpO _ (bd_X9_readWordOrNumber_0 t_size t_bytes v1 v2 t_number t_name t_position t_token) = _
  unfold bd_X9_readWordOrNumber_0
  simp only [lpO_ite, lpO_bind, lpO_none, lpO_l, lpO_r]
  try rfl
theorem gq_X9_readWordOrNumber_1 (t_size : Int32) (t_bytes : Nat → Int32) (v1 : Int32) (v2 : Int32) (t_number : Int32) (t_name : Int64) (t_position : Int32) (t_token : Int32) : gn_X9_readWordOrNumber_1 t_size t_bytes v1 v2 t_number t_name t_position t_token =
    if v2 = 0 then
      if (7 : Int32) < v1 then
        gn_X9_readWordOrNumber_3 t_size t_bytes v1 v2 0 t_number t_name t_position t_token
      else
        gn_X9_readWordOrNumber_3 t_size t_bytes v1 v2 1 t_number t_name t_position t_token
    else
      gn_X9_readWordOrNumber_3 t_size t_bytes v1 v2 0 t_number t_name t_position t_token := by
  rw [gn_X9_readWordOrNumber_1, lpC_eq]
  show lpO _ (bd_X9_readWordOrNumber_1 t_size t_bytes v1 v2 t_number t_name t_position t_token) = _
  unfold bd_X9_readWordOrNumber_1
  simp only [lpO_ite, lpO_bind, lpO_none, lpO_l, lpO_r]
  try rfl
theorem gq_X9_readWordOrNumber_2 (t_size : Int32) (t_bytes : Nat → Int32) (v1 : Int32) (v2 : Int32) (v3 : Int32) (t_number : Int32) (t_name : Int64) (t_position : Int32) (t_token : Int32) : gn_X9_readWordOrNumber_2 t_size t_bytes v1 v2 v3 t_number t_name t_position t_token =
    if v3 < 48 then
      gn_X9_readWordOrNumber_1 t_size t_bytes v1 v2 t_number t_name t_position t_token
    else
      if (57 : Int32) < v3 then
        gn_X9_readWordOrNumber_1 t_size t_bytes v1 v2 t_number t_name t_position t_token
      else
        gn_X9_readWordOrNumber_0 t_size t_bytes v1 (v2 + 1) ((t_number * 10) + (v3 - 48)) t_name (t_position + 1) t_token := by
  rw [gn_X9_readWordOrNumber_2, lpC_eq]
  show lpO _ (bd_X9_readWordOrNumber_2 t_size t_bytes v1 v2 v3 t_number t_name t_position t_token) = _
  unfold bd_X9_readWordOrNumber_2
  simp only [lpO_ite, lpO_bind, lpO_none, lpO_l, lpO_r]
  try rfl
theorem gq_X9_readWordOrNumber_3 (t_size : Int32) (t_bytes : Nat → Int32) (v1 : Int32) (v2 : Int32) (k0 : Int32) (t_number : Int32) (t_name : Int64) (t_position : Int32) (t_token : Int32) : gn_X9_readWordOrNumber_3 t_size t_bytes v1 v2 k0 t_number t_name t_position t_token =
    if v1 = 0 then
      if (2 : Int32) < v2 then
        gn_X9_readWordOrNumber_4 t_size t_bytes k0 0 t_number t_name t_position t_token
      else
        gn_X9_readWordOrNumber_4 t_size t_bytes k0 1 t_number t_name t_position t_token
    else
      gn_X9_readWordOrNumber_4 t_size t_bytes k0 0 t_number t_name t_position t_token := by
  rw [gn_X9_readWordOrNumber_3, lpC_eq]
  show lpO _ (bd_X9_readWordOrNumber_3 t_size t_bytes v1 v2 k0 t_number t_name t_position t_token) = _
  unfold bd_X9_readWordOrNumber_3
  simp only [lpO_ite, lpO_bind, lpO_none, lpO_l, lpO_r]
  try rfl
theorem gq_X9_readWordOrNumber_4 (t_size : Int32) (t_bytes : Nat → Int32) (v3 : Int32) (k0 : Int32) (t_number : Int32) (t_name : Int64) (t_position : Int32) (t_token : Int32) : gn_X9_readWordOrNumber_4 t_size t_bytes v3 k0 t_number t_name t_position t_token =
    if v3 = 0 then
      if k0 = 0 then
        some (t_number, t_name, t_position, 4)
      else
        some (t_number, t_name, t_position, 2)
    else
      some (t_number, t_name, t_position, 1) := by
  rw [gn_X9_readWordOrNumber_4, lpC_eq]
  show lpO _ (bd_X9_readWordOrNumber_4 t_size t_bytes v3 k0 t_number t_name t_position t_token) = _
  unfold bd_X9_readWordOrNumber_4
  simp only [lpO_ite, lpO_bind, lpO_none, lpO_l, lpO_r]
  try rfl
noncomputable def dn_X9_readWordOrNumber (t_size : Int32) (t_token : Int32) (t_position : Int32) (t_bytes : Nat → Int32) : Option (Int32 × Int64 × Int32 × Int32) :=
  gn_X9_readWordOrNumber_0 t_size t_bytes 0 0 0 0 t_position t_token
noncomputable def bd_X9_next_0 (t_size : Int32) (t_stop : Int32) (t_bytes : Nat → Int32) (t_position : Int32) (t_place : Int32) (t_number : Int32) (t_name : Int64) (t_token : Int32) : Option (((Int32 × Int32 × Int32 × Int64 × Int32) ⊕ ((Int32 × Int32 × Int32 × Int64 × Int32))) ⊕ (Int32 × Int32 × Int32 × Int64 × Int32)) :=
  if t_position < t_stop then
    Option.bind (dn_X9_readWordOrNumber t_size t_token t_position t_bytes) fun q7 =>
    if q7.2.2.1 = t_position then
      if inb q7.2.2.1 940 = true then
      if (t_bytes (q7.2.2.1).toNatClampNeg) = 59 then
        some (.inr (q7.2.2.1 + 1, t_position, q7.1, q7.2.1, 3))
      else
        some (.inr (q7.2.2.1 + 1, t_position, q7.1, q7.2.1, 4))
      else none
    else
      some (.inr (q7.2.2.1, t_position, q7.1, q7.2.1, q7.2.2.2))
  else
    some (.inr (t_position, t_stop, t_number, t_name, 0))
noncomputable def bd_X9_next_1 (t_size : Int32) (t_stop : Int32) (t_bytes : Nat → Int32) (t_position : Int32) (t_place : Int32) (t_number : Int32) (t_name : Int64) (t_token : Int32) : Option (((Int32 × Int32 × Int32 × Int64 × Int32) ⊕ ((Int32 × Int32 × Int32 × Int64 × Int32))) ⊕ (Int32 × Int32 × Int32 × Int64 × Int32)) :=
  if t_stop ≤ t_position then
    some (.inl (.inl (t_position, t_place, t_number, t_name, t_token)))
  else
    if inb t_position 940 = true then
    if (t_bytes (t_position).toNatClampNeg) = 32 then
      some (.inl (.inr ((t_position + 1, t_place, t_number, t_name, t_token))))
    else
      if inb t_position 940 = true then
      if (t_bytes (t_position).toNatClampNeg) = 10 then
        some (.inl (.inr ((t_position + 1, t_place, t_number, t_name, t_token))))
      else
        some (.inl (.inl (t_position, t_place, t_number, t_name, t_token)))
      else none
    else none
noncomputable def st_X9_next (t_size : Int32) (t_stop : Int32) (t_bytes : Nat → Int32) : ((Int32 × Int32 × Int32 × Int64 × Int32) ⊕ ((Int32 × Int32 × Int32 × Int64 × Int32))) → Option (((Int32 × Int32 × Int32 × Int64 × Int32) ⊕ ((Int32 × Int32 × Int32 × Int64 × Int32))) ⊕ (Int32 × Int32 × Int32 × Int64 × Int32)) := fun s => match s with
  | .inl (t_position, t_place, t_number, t_name, t_token) => bd_X9_next_0 t_size t_stop t_bytes t_position t_place t_number t_name t_token
  | .inr ((t_position, t_place, t_number, t_name, t_token)) => bd_X9_next_1 t_size t_stop t_bytes t_position t_place t_number t_name t_token
noncomputable def gn_X9_next_0 (t_size : Int32) (t_stop : Int32) (t_bytes : Nat → Int32) (t_position : Int32) (t_place : Int32) (t_number : Int32) (t_name : Int64) (t_token : Int32) : Option (Int32 × Int32 × Int32 × Int64 × Int32) := lpC (st_X9_next t_size t_stop t_bytes) (.inl (t_position, t_place, t_number, t_name, t_token))
noncomputable def gn_X9_next_1 (t_size : Int32) (t_stop : Int32) (t_bytes : Nat → Int32) (t_position : Int32) (t_place : Int32) (t_number : Int32) (t_name : Int64) (t_token : Int32) : Option (Int32 × Int32 × Int32 × Int64 × Int32) := lpC (st_X9_next t_size t_stop t_bytes) (.inr ((t_position, t_place, t_number, t_name, t_token)))
theorem gq_X9_next_0 (t_size : Int32) (t_stop : Int32) (t_bytes : Nat → Int32) (t_position : Int32) (t_place : Int32) (t_number : Int32) (t_name : Int64) (t_token : Int32) : gn_X9_next_0 t_size t_stop t_bytes t_position t_place t_number t_name t_token =
    if t_position < t_stop then
      Option.bind (dn_X9_readWordOrNumber t_size t_token t_position t_bytes) fun q7 =>
      if q7.2.2.1 = t_position then
        if inb q7.2.2.1 940 = true then
        if (t_bytes (q7.2.2.1).toNatClampNeg) = 59 then
          some (q7.2.2.1 + 1, t_position, q7.1, q7.2.1, 3)
        else
          some (q7.2.2.1 + 1, t_position, q7.1, q7.2.1, 4)
        else none
      else
        some (q7.2.2.1, t_position, q7.1, q7.2.1, q7.2.2.2)
    else
      some (t_position, t_stop, t_number, t_name, 0) := by
  rw [gn_X9_next_0, lpC_eq]
  show lpO _ (bd_X9_next_0 t_size t_stop t_bytes t_position t_place t_number t_name t_token) = _
  unfold bd_X9_next_0
  simp only [lpO_ite, lpO_bind, lpO_none, lpO_l, lpO_r]
  try rfl
theorem gq_X9_next_1 (t_size : Int32) (t_stop : Int32) (t_bytes : Nat → Int32) (t_position : Int32) (t_place : Int32) (t_number : Int32) (t_name : Int64) (t_token : Int32) : gn_X9_next_1 t_size t_stop t_bytes t_position t_place t_number t_name t_token =
    if t_stop ≤ t_position then
      gn_X9_next_0 t_size t_stop t_bytes t_position t_place t_number t_name t_token
    else
      if inb t_position 940 = true then
      if (t_bytes (t_position).toNatClampNeg) = 32 then
        gn_X9_next_1 t_size t_stop t_bytes (t_position + 1) t_place t_number t_name t_token
      else
        if inb t_position 940 = true then
        if (t_bytes (t_position).toNatClampNeg) = 10 then
          gn_X9_next_1 t_size t_stop t_bytes (t_position + 1) t_place t_number t_name t_token
        else
          gn_X9_next_0 t_size t_stop t_bytes t_position t_place t_number t_name t_token
        else none
      else none := by
  rw [gn_X9_next_1, lpC_eq]
  show lpO _ (bd_X9_next_1 t_size t_stop t_bytes t_position t_place t_number t_name t_token) = _
  unfold bd_X9_next_1
  simp only [lpO_ite, lpO_bind, lpO_none, lpO_l, lpO_r]
  try rfl
noncomputable def dn_X9_next (t_size : Int32) (t_token : Int32) (t_place : Int32) (t_number : Int32) (t_name : Int64) (t_position : Int32) (t_stop : Int32) (t_bytes : Nat → Int32) : Option (Int32 × Int32 × Int32 × Int64 × Int32) :=
  if t_stop ≤ t_position then
    gn_X9_next_0 t_size t_stop t_bytes t_position t_place t_number t_name t_token
  else
    if inb t_position 940 = true then
    if (t_bytes (t_position).toNatClampNeg) = 32 then
      gn_X9_next_1 t_size t_stop t_bytes (t_position + 1) t_place t_number t_name t_token
    else
      if inb t_position 940 = true then
      if (t_bytes (t_position).toNatClampNeg) = 10 then
        gn_X9_next_1 t_size t_stop t_bytes (t_position + 1) t_place t_number t_name t_token
      else
        gn_X9_next_0 t_size t_stop t_bytes t_position t_place t_number t_name t_token
      else none
    else none
noncomputable def bd_X9_isWord_0 (t_place : Int32) (t_bytes : Nat → Int32) (i1 : Nat) (v2 : Int32) : Option (((Int32)) ⊕ (Bool)) :=
  if (nI (lenJS.getD i1 0)) ≤ v2 then
    some (.inr true)
  else
    if (940 : Int32) ≤ (t_place + v2) then
      some (.inr true)
    else
      if inb (t_place + v2) 940 = true then
      if inb v2 (lenJS.getD i1 0) = true then
      if (t_bytes ((t_place + v2)).toNatClampNeg) = ((bytJS.getD i1 []).getD (v2).toNatClampNeg 0) then
        some (.inl (v2 + 1))
      else
        some (.inr false)
      else none
      else none
noncomputable def st_X9_isWord (t_place : Int32) (t_bytes : Nat → Int32) (i1 : Nat) : ((Int32)) → Option (((Int32)) ⊕ (Bool)) := fun s => match s with
  | v2 => bd_X9_isWord_0 t_place t_bytes i1 v2
noncomputable def gn_X9_isWord_0 (t_place : Int32) (t_bytes : Nat → Int32) (i1 : Nat) (v2 : Int32) : Option (Bool) := lpC (st_X9_isWord t_place t_bytes i1) (v2)
theorem gq_X9_isWord_0 (t_place : Int32) (t_bytes : Nat → Int32) (i1 : Nat) (v2 : Int32) : gn_X9_isWord_0 t_place t_bytes i1 v2 =
    if (nI (lenJS.getD i1 0)) ≤ v2 then
      some true
    else
      if (940 : Int32) ≤ (t_place + v2) then
        some true
      else
        if inb (t_place + v2) 940 = true then
        if inb v2 (lenJS.getD i1 0) = true then
        if (t_bytes ((t_place + v2)).toNatClampNeg) = ((bytJS.getD i1 []).getD (v2).toNatClampNeg 0) then
          gn_X9_isWord_0 t_place t_bytes i1 (v2 + 1)
        else
          some false
        else none
        else none := by
  rw [gn_X9_isWord_0, lpC_eq]
  show lpO _ (bd_X9_isWord_0 t_place t_bytes i1 v2) = _
  unfold bd_X9_isWord_0
  simp only [lpO_ite, lpO_bind, lpO_none, lpO_l, lpO_r]
  try rfl
noncomputable def dn_X9_isWord (t_token : Int32) (t_place : Int32) (t_position : Int32) (t_bytes : Nat → Int32) (i1 : Nat) : Option (Bool) :=
  if t_token = 1 then
    if (t_position - t_place) = (nI (lenJS.getD i1 0)) then
      gn_X9_isWord_0 t_place t_bytes i1 0
    else
      some false
  else
    some false
noncomputable def dn_X9_isName (t_token : Int32) (t_place : Int32) (t_position : Int32) (t_bytes : Nat → Int32) : Option (Bool) :=
  Option.bind (dn_X9_isWord t_token t_place t_position t_bytes 0) fun q1 =>
  if q1 = true then
    some false
  else
    Option.bind (dn_X9_isWord t_token t_place t_position t_bytes 1) fun q3 =>
    if q3 = true then
      some false
    else
      Option.bind (dn_X9_isWord t_token t_place t_position t_bytes 2) fun q5 =>
      if q5 = true then
        some false
      else
        Option.bind (dn_X9_isWord t_token t_place t_position t_bytes 3) fun q7 =>
        if q7 = true then
          some false
        else
          Option.bind (dn_X9_isWord t_token t_place t_position t_bytes 4) fun q9 =>
          if q9 = true then
            some false
          else
            Option.bind (dn_X9_isWord t_token t_place t_position t_bytes 5) fun q11 =>
            if q11 = true then
              some false
            else
              Option.bind (dn_X9_isWord t_token t_place t_position t_bytes 6) fun q13 =>
              if q13 = true then
                some false
              else
                Option.bind (dn_X9_isWord t_token t_place t_position t_bytes 7) fun q15 =>
                if q15 = true then
                  some false
                else
                  if t_token = 1 then
                    Option.bind (dn_X9_isWord t_token t_place t_position t_bytes 8) fun q18 =>
                    if q18 = true then
                      some false
                    else
                      Option.bind (dn_X9_isWord t_token t_place t_position t_bytes 9) fun q20 =>
                      if q20 = true then
                        some false
                      else
                        Option.bind (dn_X9_isWord t_token t_place t_position t_bytes 10) fun q22 =>
                        if q22 = true then
                          some false
                        else
                          some true
                  else
                    some false
noncomputable def dn_X9_hasRoomFor (t_size : Int32) (p1 : Int32) : Option (Bool) :=
  if (940 : Int32) < (t_size + p1) then
    some false
  else
    some true
noncomputable def bd_X9_addNumber_0 (p1 : Int32) (v2 : Int32) (t_bytes : Nat → Int32) (t_size : Int32) : Option (((Int32 × (Nat → Int32) × Int32)) ⊕ ((Nat → Int32) × Int32)) :=
  if v2 < 0 then
    some (.inr (t_bytes, t_size))
  else
    if (940 : Int32) ≤ t_size then
      some (.inr (t_bytes, t_size))
    else
      if inb t_size 940 = true then
      some (.inl (v2 + (-8), upd t_bytes (t_size).toNatClampNeg (vp_nar .byte ((Int32.toInt8 ((p1.toUInt32 >>> ((v2 : Int32).toUInt32 &&& Int32.toUInt32 31)).toInt32)).toInt32)), t_size + 1))
      else none
noncomputable def st_X9_addNumber (p1 : Int32) : ((Int32 × (Nat → Int32) × Int32)) → Option (((Int32 × (Nat → Int32) × Int32)) ⊕ ((Nat → Int32) × Int32)) := fun s => match s with
  | (v2, t_bytes, t_size) => bd_X9_addNumber_0 p1 v2 t_bytes t_size
noncomputable def gn_X9_addNumber_0 (p1 : Int32) (v2 : Int32) (t_bytes : Nat → Int32) (t_size : Int32) : Option ((Nat → Int32) × Int32) := lpC (st_X9_addNumber p1) ((v2, t_bytes, t_size))
theorem gq_X9_addNumber_0 (p1 : Int32) (v2 : Int32) (t_bytes : Nat → Int32) (t_size : Int32) : gn_X9_addNumber_0 p1 v2 t_bytes t_size =
    if v2 < 0 then
      some (t_bytes, t_size)
    else
      if (940 : Int32) ≤ t_size then
        some (t_bytes, t_size)
      else
        if inb t_size 940 = true then
        gn_X9_addNumber_0 p1 (v2 + (-8)) (upd t_bytes (t_size).toNatClampNeg (vp_nar .byte ((Int32.toInt8 ((p1.toUInt32 >>> ((v2 : Int32).toUInt32 &&& Int32.toUInt32 31)).toInt32)).toInt32))) (t_size + 1)
        else none := by
  rw [gn_X9_addNumber_0, lpC_eq]
  show lpO _ (bd_X9_addNumber_0 p1 v2 t_bytes t_size) = _
  unfold bd_X9_addNumber_0
  simp only [lpO_ite, lpO_bind, lpO_none, lpO_l, lpO_r]
  try rfl
noncomputable def dn_X9_addNumber (t_size : Int32) (t_bytes : Nat → Int32) (p1 : Int32) : Option ((Nat → Int32) × Int32) :=
  gn_X9_addNumber_0 p1 24 t_bytes t_size
noncomputable def dn_X9_cut (p1 : Int32) : Option (Int32) :=
  some p1
noncomputable def dn_X10_otherIn (t_borrower : Nat → Int32) (t_lender : Nat → Int32) (p1 : Int32) (p2 : Int32) : Option (Int32) :=
  if inb p1 30 = true then
  if (t_lender (p1).toNatClampNeg) = p2 then
    if inb p1 30 = true then
    some (t_borrower (p1).toNatClampNeg)
    else none
  else
    if inb p1 30 = true then
    some (t_lender (p1).toNatClampNeg)
    else none
  else none
noncomputable def dn_X10_isIn (t_borrower : Nat → Int32) (t_lender : Nat → Int32) (p1 : Int32) (p2 : Int32) : Option (Bool) :=
  if inb p1 30 = true then
  if (t_lender (p1).toNatClampNeg) = p2 then
    some true
  else
    if inb p1 30 = true then
    if (t_borrower (p1).toNatClampNeg) = p2 then
      some true
    else
      some false
    else none
  else none
noncomputable def dn_X10_shareOf (t_borrower : Nat → Int32) (t_borrowerGain : Nat → Int32) (t_lender : Nat → Int32) (t_lenderGain : Nat → Int32) (p1 : Int32) (p2 : Int32) : Option (Int32) :=
  if inb p1 30 = true then
  if (t_lender (p1).toNatClampNeg) = p2 then
    if inb p1 30 = true then
    some (t_lenderGain (p1).toNatClampNeg)
    else none
  else
    if inb p1 30 = true then
    if (t_borrower (p1).toNatClampNeg) = p2 then
      if inb p1 30 = true then
      some (t_borrowerGain (p1).toNatClampNeg)
      else none
    else
      some 0
    else none
  else none
noncomputable def dn_X10_goesBy (t_borrower : Nat → Int32) (t_either : Nat → Int32) (t_lender : Nat → Int32) (p1 : Int32) (p2 : Int32) : Option (Bool) :=
  if inb p1 30 = true then
  if inb p1 30 = true then
  if ((p2 >>> ((t_lender (p1).toNatClampNeg) &&& 31)) &&& 1) = ((p2 >>> ((t_borrower (p1).toNatClampNeg) &&& 31)) &&& 1) then
    some false
  else
    if ((p2 >>> ((t_lender (p1).toNatClampNeg) &&& 31)) &&& 1) = 1 then
      some true
    else
      if inb p1 30 = true then
      if (t_either (p1).toNatClampNeg) = 1 then
        some true
      else
        some false
      else none
  else none
  else none
noncomputable def dn_X10_bothShares (t_borrowerGain : Nat → Int32) (t_lenderGain : Nat → Int32) (p1 : Int32) : Option (Int32) :=
  if inb p1 30 = true then
  if inb p1 30 = true then
  some ((t_lenderGain (p1).toNatClampNeg) + (t_borrowerGain (p1).toNatClampNeg))
  else none
  else none
noncomputable def dn_X5_forget (t_gains : Nat → Int32) : Option ((Nat → Int32) × Int32 × Int32) :=
  some (jfill 1024 t_gains (-1), (-1), (-1))
noncomputable def dn_X5_copyFrom (t_gains : Nat → Int32) (t_lawfulWays : Nat → Int32) (t_rests : Nat → Int32) (p1_restCount : Int32) (p1_lawfulGain : Int32) (p1_gains : Nat → Int32) (p1_lawfulWays : Nat → Int32) (p1_rests : Nat → Int32) : Option ((Nat → Int32) × (Nat → Int32) × (Nat → Int32) × Int32 × Int32) :=
  some (va_cpy p1_gains t_gains (0 : Int32).toNatClampNeg (0 : Int32).toNatClampNeg (1024 : Int32).toNatClampNeg, va_cpy p1_rests t_rests (0 : Int32).toNatClampNeg (0 : Int32).toNatClampNeg (1024 : Int32).toNatClampNeg, va_cpy p1_lawfulWays t_lawfulWays (0 : Int32).toNatClampNeg (0 : Int32).toNatClampNeg (12 : Int32).toNatClampNeg, p1_restCount, p1_lawfulGain)
noncomputable def dn_X10_clear (t_memo_gains : Nat → Int32) : Option (Int32 × Int32 × Int32 × Int32 × (Nat → Int32) × Int32 × Int32) :=
  Option.bind (dn_X5_forget t_memo_gains) fun q1 =>
  some (0, 0, 0, 0, q1.1, q1.2.1, q1.2.2)
noncomputable def bd_X10_orderByYear_0 (t_deals : Int32) (t_year : Nat → Int32) (v1 : Int32) (t_byYear : Nat → Int32) : Option (((Int32 × (Nat → Int32)) ⊕ ((Int32 × Int32 × (Nat → Int32)))) ⊕ ((Nat → Int32))) :=
  if t_deals ≤ v1 then
    some (.inr t_byYear)
  else
    some (.inl (.inr ((v1, v1, t_byYear))))
noncomputable def bd_X10_orderByYear_1 (t_deals : Int32) (t_year : Nat → Int32) (v1 : Int32) (v2 : Int32) (t_byYear : Nat → Int32) : Option (((Int32 × (Nat → Int32)) ⊕ ((Int32 × Int32 × (Nat → Int32)))) ⊕ ((Nat → Int32))) :=
  if v2 ≤ 0 then
    if inb v2 30 = true then
    some (.inl (.inl (v1 + 1, upd t_byYear (v2).toNatClampNeg v1)))
    else none
  else
    if inb (v2 - 1) 30 = true then
    if inb (t_byYear ((v2 - 1)).toNatClampNeg) 30 = true then
    if inb v1 30 = true then
    if (t_year ((t_byYear ((v2 - 1)).toNatClampNeg)).toNatClampNeg) ≤ (t_year (v1).toNatClampNeg) then
      if inb v2 30 = true then
      some (.inl (.inl (v1 + 1, upd t_byYear (v2).toNatClampNeg v1)))
      else none
    else
      if inb (v2 - 1) 30 = true then
      if inb v2 30 = true then
      some (.inl (.inr ((v1, v2 + (-1), upd t_byYear (v2).toNatClampNeg (t_byYear ((v2 - 1)).toNatClampNeg)))))
      else none
      else none
    else none
    else none
    else none
noncomputable def st_X10_orderByYear (t_deals : Int32) (t_year : Nat → Int32) : ((Int32 × (Nat → Int32)) ⊕ ((Int32 × Int32 × (Nat → Int32)))) → Option (((Int32 × (Nat → Int32)) ⊕ ((Int32 × Int32 × (Nat → Int32)))) ⊕ ((Nat → Int32))) := fun s => match s with
  | .inl (v1, t_byYear) => bd_X10_orderByYear_0 t_deals t_year v1 t_byYear
  | .inr ((v1, v2, t_byYear)) => bd_X10_orderByYear_1 t_deals t_year v1 v2 t_byYear
noncomputable def gn_X10_orderByYear_0 (t_deals : Int32) (t_year : Nat → Int32) (v1 : Int32) (t_byYear : Nat → Int32) : Option ((Nat → Int32)) := lpC (st_X10_orderByYear t_deals t_year) (.inl (v1, t_byYear))
noncomputable def gn_X10_orderByYear_1 (t_deals : Int32) (t_year : Nat → Int32) (v1 : Int32) (v2 : Int32) (t_byYear : Nat → Int32) : Option ((Nat → Int32)) := lpC (st_X10_orderByYear t_deals t_year) (.inr ((v1, v2, t_byYear)))
theorem gq_X10_orderByYear_0 (t_deals : Int32) (t_year : Nat → Int32) (v1 : Int32) (t_byYear : Nat → Int32) : gn_X10_orderByYear_0 t_deals t_year v1 t_byYear =
    if t_deals ≤ v1 then
      some t_byYear
    else
      gn_X10_orderByYear_1 t_deals t_year v1 v1 t_byYear := by
  rw [gn_X10_orderByYear_0, lpC_eq]
  show lpO _ (bd_X10_orderByYear_0 t_deals t_year v1 t_byYear) = _
  unfold bd_X10_orderByYear_0
  simp only [lpO_ite, lpO_bind, lpO_none, lpO_l, lpO_r]
  try rfl
theorem gq_X10_orderByYear_1 (t_deals : Int32) (t_year : Nat → Int32) (v1 : Int32) (v2 : Int32) (t_byYear : Nat → Int32) : gn_X10_orderByYear_1 t_deals t_year v1 v2 t_byYear =
    if v2 ≤ 0 then
      if inb v2 30 = true then
      gn_X10_orderByYear_0 t_deals t_year (v1 + 1) (upd t_byYear (v2).toNatClampNeg v1)
      else none
    else
      if inb (v2 - 1) 30 = true then
      if inb (t_byYear ((v2 - 1)).toNatClampNeg) 30 = true then
      if inb v1 30 = true then
      if (t_year ((t_byYear ((v2 - 1)).toNatClampNeg)).toNatClampNeg) ≤ (t_year (v1).toNatClampNeg) then
        if inb v2 30 = true then
        gn_X10_orderByYear_0 t_deals t_year (v1 + 1) (upd t_byYear (v2).toNatClampNeg v1)
        else none
      else
        if inb (v2 - 1) 30 = true then
        if inb v2 30 = true then
        gn_X10_orderByYear_1 t_deals t_year v1 (v2 + (-1)) (upd t_byYear (v2).toNatClampNeg (t_byYear ((v2 - 1)).toNatClampNeg))
        else none
        else none
      else none
      else none
      else none := by
  rw [gn_X10_orderByYear_1, lpC_eq]
  show lpO _ (bd_X10_orderByYear_1 t_deals t_year v1 v2 t_byYear) = _
  unfold bd_X10_orderByYear_1
  simp only [lpO_ite, lpO_bind, lpO_none, lpO_l, lpO_r]
  try rfl
noncomputable def dn_X10_orderByYear (t_deals : Int32) (t_byYear : Nat → Int32) (t_year : Nat → Int32) : Option ((Nat → Int32)) :=
  gn_X10_orderByYear_0 t_deals t_year 0 t_byYear
noncomputable def bd_X10_findPerson_0 (t_persons : Int32) (t_personNames : Nat → Int64) (p1 : Int64) (v3 : Int32) : Option (((Int32)) ⊕ (Int32)) :=
  if t_persons ≤ v3 then
    some (.inr (-1))
  else
    if inb v3 10 = true then
    if (t_personNames (v3).toNatClampNeg) = p1 then
      some (.inr v3)
    else
      some (.inl (v3 + 1))
    else none
noncomputable def st_X10_findPerson (t_persons : Int32) (t_personNames : Nat → Int64) (p1 : Int64) : ((Int32)) → Option (((Int32)) ⊕ (Int32)) := fun s => match s with
  | v3 => bd_X10_findPerson_0 t_persons t_personNames p1 v3
noncomputable def gn_X10_findPerson_0 (t_persons : Int32) (t_personNames : Nat → Int64) (p1 : Int64) (v3 : Int32) : Option (Int32) := lpC (st_X10_findPerson t_persons t_personNames p1) (v3)
theorem gq_X10_findPerson_0 (t_persons : Int32) (t_personNames : Nat → Int64) (p1 : Int64) (v3 : Int32) : gn_X10_findPerson_0 t_persons t_personNames p1 v3 =
    if t_persons ≤ v3 then
      some (-1)
    else
      if inb v3 10 = true then
      if (t_personNames (v3).toNatClampNeg) = p1 then
        some v3
      else
        gn_X10_findPerson_0 t_persons t_personNames p1 (v3 + 1)
      else none := by
  rw [gn_X10_findPerson_0, lpC_eq]
  show lpO _ (bd_X10_findPerson_0 t_persons t_personNames p1 v3) = _
  unfold bd_X10_findPerson_0
  simp only [lpO_ite, lpO_bind, lpO_none, lpO_l, lpO_r]
  try rfl
noncomputable def dn_X10_findPerson (t_persons : Int32) (t_personNames : Nat → Int64) (p1 : Int64) : Option (Int32) :=
  gn_X10_findPerson_0 t_persons t_personNames p1 0
noncomputable def bd_X10_findDeal_0 (t_deals : Int32) (t_dealNames : Nat → Int64) (p1 : Int64) (v3 : Int32) : Option (((Int32)) ⊕ (Int32)) :=
  if t_deals ≤ v3 then
    some (.inr (-1))
  else
    if inb v3 30 = true then
    if (t_dealNames (v3).toNatClampNeg) = p1 then
      some (.inr v3)
    else
      some (.inl (v3 + 1))
    else none
noncomputable def st_X10_findDeal (t_deals : Int32) (t_dealNames : Nat → Int64) (p1 : Int64) : ((Int32)) → Option (((Int32)) ⊕ (Int32)) := fun s => match s with
  | v3 => bd_X10_findDeal_0 t_deals t_dealNames p1 v3
noncomputable def gn_X10_findDeal_0 (t_deals : Int32) (t_dealNames : Nat → Int64) (p1 : Int64) (v3 : Int32) : Option (Int32) := lpC (st_X10_findDeal t_deals t_dealNames p1) (v3)
theorem gq_X10_findDeal_0 (t_deals : Int32) (t_dealNames : Nat → Int64) (p1 : Int64) (v3 : Int32) : gn_X10_findDeal_0 t_deals t_dealNames p1 v3 =
    if t_deals ≤ v3 then
      some (-1)
    else
      if inb v3 30 = true then
      if (t_dealNames (v3).toNatClampNeg) = p1 then
        some v3
      else
        gn_X10_findDeal_0 t_deals t_dealNames p1 (v3 + 1)
      else none := by
  rw [gn_X10_findDeal_0, lpC_eq]
  show lpO _ (bd_X10_findDeal_0 t_deals t_dealNames p1 v3) = _
  unfold bd_X10_findDeal_0
  simp only [lpO_ite, lpO_bind, lpO_none, lpO_l, lpO_r]
  try rfl
noncomputable def dn_X10_findDeal (t_deals : Int32) (t_dealNames : Nat → Int64) (p1 : Int64) : Option (Int32) :=
  gn_X10_findDeal_0 t_deals t_dealNames p1 0
noncomputable def dn_X10_addPerson (t_persons : Int32) (t_born : Nat → Int32) (t_dies : Nat → Int32) (t_limit : Nat → Int32) (t_personNames : Nat → Int64) (p1 : Int64) (p2 : Int32) (p3 : Int32) : Option ((Nat → Int64) × (Nat → Int32) × (Nat → Int32) × (Nat → Int32) × Int32) :=
  if t_persons < 10 then
    if inb t_persons 10 = true then
    if inb t_persons 10 = true then
    if inb t_persons 10 = true then
    if inb t_persons 10 = true then
    some (vp_updL t_personNames (t_persons).toNatClampNeg p1, upd t_born (t_persons).toNatClampNeg p2, upd t_dies (t_persons).toNatClampNeg p3, upd t_limit (t_persons).toNatClampNeg 9, t_persons + 1)
    else none
    else none
    else none
    else none
  else
    some (t_personNames, t_born, t_dies, t_limit, t_persons)
noncomputable def bd_X10_ownOf_0 (t_deals : Int32) (t_borrower : Nat → Int32) (t_borrowerGain : Nat → Int32) (t_either : Nat → Int32) (t_lender : Nat → Int32) (t_lenderGain : Nat → Int32) (p1 : Int32) (p2 : Int32) (v3 : Int32) (v4 : Int32) : Option (((Int32 × Int32)) ⊕ (Int32)) :=
  if t_deals ≤ v4 then
    some (.inr v3)
  else
    Option.bind (dn_X10_isIn t_borrower t_lender v4 p1) fun q2 =>
    if q2 = true then
      Option.bind (dn_X10_goesBy t_borrower t_either t_lender v4 p2) fun q4 =>
      if q4 = true then
        Option.bind (dn_X10_shareOf t_borrower t_borrowerGain t_lender t_lenderGain v4 p1) fun q6 =>
        some (.inl (v3 + q6, v4 + 1))
      else
        some (.inl (v3, v4 + 1))
    else
      some (.inl (v3, v4 + 1))
noncomputable def st_X10_ownOf (t_deals : Int32) (t_borrower : Nat → Int32) (t_borrowerGain : Nat → Int32) (t_either : Nat → Int32) (t_lender : Nat → Int32) (t_lenderGain : Nat → Int32) (p1 : Int32) (p2 : Int32) : ((Int32 × Int32)) → Option (((Int32 × Int32)) ⊕ (Int32)) := fun s => match s with
  | (v3, v4) => bd_X10_ownOf_0 t_deals t_borrower t_borrowerGain t_either t_lender t_lenderGain p1 p2 v3 v4
noncomputable def gn_X10_ownOf_0 (t_deals : Int32) (t_borrower : Nat → Int32) (t_borrowerGain : Nat → Int32) (t_either : Nat → Int32) (t_lender : Nat → Int32) (t_lenderGain : Nat → Int32) (p1 : Int32) (p2 : Int32) (v3 : Int32) (v4 : Int32) : Option (Int32) := lpC (st_X10_ownOf t_deals t_borrower t_borrowerGain t_either t_lender t_lenderGain p1 p2) ((v3, v4))
theorem gq_X10_ownOf_0 (t_deals : Int32) (t_borrower : Nat → Int32) (t_borrowerGain : Nat → Int32) (t_either : Nat → Int32) (t_lender : Nat → Int32) (t_lenderGain : Nat → Int32) (p1 : Int32) (p2 : Int32) (v3 : Int32) (v4 : Int32) : gn_X10_ownOf_0 t_deals t_borrower t_borrowerGain t_either t_lender t_lenderGain p1 p2 v3 v4 =
    if t_deals ≤ v4 then
      some v3
    else
      Option.bind (dn_X10_isIn t_borrower t_lender v4 p1) fun q2 =>
      if q2 = true then
        Option.bind (dn_X10_goesBy t_borrower t_either t_lender v4 p2) fun q4 =>
        if q4 = true then
          Option.bind (dn_X10_shareOf t_borrower t_borrowerGain t_lender t_lenderGain v4 p1) fun q6 =>
          gn_X10_ownOf_0 t_deals t_borrower t_borrowerGain t_either t_lender t_lenderGain p1 p2 (v3 + q6) (v4 + 1)
        else
          gn_X10_ownOf_0 t_deals t_borrower t_borrowerGain t_either t_lender t_lenderGain p1 p2 v3 (v4 + 1)
      else
        gn_X10_ownOf_0 t_deals t_borrower t_borrowerGain t_either t_lender t_lenderGain p1 p2 v3 (v4 + 1) := by
  rw [gn_X10_ownOf_0, lpC_eq]
  show lpO _ (bd_X10_ownOf_0 t_deals t_borrower t_borrowerGain t_either t_lender t_lenderGain p1 p2 v3 v4) = _
  unfold bd_X10_ownOf_0
  simp only [lpO_ite, lpO_bind, lpO_none, lpO_l, lpO_r]
  try rfl
noncomputable def dn_X10_ownOf (t_deals : Int32) (t_borrower : Nat → Int32) (t_borrowerGain : Nat → Int32) (t_either : Nat → Int32) (t_lender : Nat → Int32) (t_lenderGain : Nat → Int32) (p1 : Int32) (p2 : Int32) : Option (Int32) :=
  gn_X10_ownOf_0 t_deals t_borrower t_borrowerGain t_either t_lender t_lenderGain p1 p2 0 0
noncomputable def dn_X10_hasMoreByChange (t_deals : Int32) (t_borrower : Nat → Int32) (t_borrowerGain : Nat → Int32) (t_either : Nat → Int32) (t_lender : Nat → Int32) (t_lenderGain : Nat → Int32) (p1 : Int32) (p2 : Int32) : Option (Bool) :=
  Option.bind (dn_X10_ownOf t_deals t_borrower t_borrowerGain t_either t_lender t_lenderGain p1 (p2 ^^^ ((1 : Int32) <<< (p1 &&& 31)))) fun q1 =>
  Option.bind (dn_X10_ownOf t_deals t_borrower t_borrowerGain t_either t_lender t_lenderGain p1 p2) fun q2 =>
  if q1 ≤ q2 then
    some false
  else
    some true
noncomputable def dn_X10_copyFrom (t_born : Nat → Int32) (t_borrower : Nat → Int32) (t_borrowerGain : Nat → Int32) (t_byYear : Nat → Int32) (t_dealNames : Nat → Int64) (t_dies : Nat → Int32) (t_either : Nat → Int32) (t_lender : Nat → Int32) (t_lenderGain : Nat → Int32) (t_limit : Nat → Int32) (t_memo_gains : Nat → Int32) (t_memo_lawfulWays : Nat → Int32) (t_memo_rests : Nat → Int32) (t_personNames : Nat → Int64) (t_year : Nat → Int32) (p1_persons : Int32) (p1_deals : Int32) (p1_lawYears : Int32) (p1_toldParts : Int32) (p1_born : Nat → Int32) (p1_borrower : Nat → Int32) (p1_borrowerGain : Nat → Int32) (p1_byYear : Nat → Int32) (p1_dealNames : Nat → Int64) (p1_dies : Nat → Int32) (p1_either : Nat → Int32) (p1_lender : Nat → Int32) (p1_lenderGain : Nat → Int32) (p1_limit : Nat → Int32) (p1_memo_restCount : Int32) (p1_memo_lawfulGain : Int32) (p1_memo_gains : Nat → Int32) (p1_memo_lawfulWays : Nat → Int32) (p1_memo_rests : Nat → Int32) (p1_personNames : Nat → Int64) (p1_year : Nat → Int32) : Option (Int32 × Int32 × Int32 × Int32 × (Nat → Int64) × (Nat → Int32) × (Nat → Int32) × (Nat → Int32) × (Nat → Int64) × (Nat → Int32) × (Nat → Int32) × (Nat → Int32) × (Nat → Int32) × (Nat → Int32) × (Nat → Int32) × (Nat → Int32) × (Nat → Int32) × (Nat → Int32) × (Nat → Int32) × Int32 × Int32) :=
  Option.bind (dn_X5_copyFrom t_memo_gains t_memo_lawfulWays t_memo_rests p1_memo_restCount p1_memo_lawfulGain p1_memo_gains p1_memo_lawfulWays p1_memo_rests) fun q1 =>
  some (p1_persons, p1_deals, p1_lawYears, p1_toldParts, va_cpy p1_personNames t_personNames (0 : Int32).toNatClampNeg (0 : Int32).toNatClampNeg (10 : Int32).toNatClampNeg, va_cpy p1_born t_born (0 : Int32).toNatClampNeg (0 : Int32).toNatClampNeg (10 : Int32).toNatClampNeg, va_cpy p1_dies t_dies (0 : Int32).toNatClampNeg (0 : Int32).toNatClampNeg (10 : Int32).toNatClampNeg, va_cpy p1_limit t_limit (0 : Int32).toNatClampNeg (0 : Int32).toNatClampNeg (10 : Int32).toNatClampNeg, va_cpy p1_dealNames t_dealNames (0 : Int32).toNatClampNeg (0 : Int32).toNatClampNeg (30 : Int32).toNatClampNeg, va_cpy p1_lender t_lender (0 : Int32).toNatClampNeg (0 : Int32).toNatClampNeg (30 : Int32).toNatClampNeg, va_cpy p1_borrower t_borrower (0 : Int32).toNatClampNeg (0 : Int32).toNatClampNeg (30 : Int32).toNatClampNeg, va_cpy p1_year t_year (0 : Int32).toNatClampNeg (0 : Int32).toNatClampNeg (30 : Int32).toNatClampNeg, va_cpy p1_lenderGain t_lenderGain (0 : Int32).toNatClampNeg (0 : Int32).toNatClampNeg (30 : Int32).toNatClampNeg, va_cpy p1_borrowerGain t_borrowerGain (0 : Int32).toNatClampNeg (0 : Int32).toNatClampNeg (30 : Int32).toNatClampNeg, va_cpy p1_either t_either (0 : Int32).toNatClampNeg (0 : Int32).toNatClampNeg (30 : Int32).toNatClampNeg, va_cpy p1_byYear t_byYear (0 : Int32).toNatClampNeg (0 : Int32).toNatClampNeg (30 : Int32).toNatClampNeg, q1.1, q1.2.1, q1.2.2.1, q1.2.2.2.1, q1.2.2.2.2)
noncomputable def dn_X10_hasPerson (t_persons : Int32) (p1 : Int32) : Option (Bool) :=
  if p1 < 0 then
    some false
  else
    if t_persons ≤ p1 then
      some false
    else
      some true
noncomputable def dn_X10_hasDeal (t_deals : Int32) (p1 : Int32) : Option (Bool) :=
  if p1 < 0 then
    some false
  else
    if t_deals ≤ p1 then
      some false
    else
      some true
noncomputable def dn_X10_partsCount (t_persons : Int32) : Option (Int32) :=
  some ((1 : Int32) <<< (t_persons &&& 31))
noncomputable def dn_X10_hasParts (t_persons : Int32) (p1 : Int32) : Option (Bool) :=
  if p1 < 0 then
    some false
  else
    Option.bind (dn_X10_partsCount t_persons) fun q2 =>
    if q2 ≤ p1 then
      some false
    else
      some true
noncomputable def bd_X10_isAtRest_0 (t_persons : Int32) (t_deals : Int32) (t_borrower : Nat → Int32) (t_borrowerGain : Nat → Int32) (t_either : Nat → Int32) (t_lender : Nat → Int32) (t_lenderGain : Nat → Int32) (p1 : Int32) (v2 : Int32) : Option (((Int32)) ⊕ (Bool)) :=
  if t_persons ≤ v2 then
    some (.inr true)
  else
    Option.bind (dn_X10_hasMoreByChange t_deals t_borrower t_borrowerGain t_either t_lender t_lenderGain v2 p1) fun q2 =>
    if q2 = true then
      some (.inr false)
    else
      some (.inl (v2 + 1))
noncomputable def st_X10_isAtRest (t_persons : Int32) (t_deals : Int32) (t_borrower : Nat → Int32) (t_borrowerGain : Nat → Int32) (t_either : Nat → Int32) (t_lender : Nat → Int32) (t_lenderGain : Nat → Int32) (p1 : Int32) : ((Int32)) → Option (((Int32)) ⊕ (Bool)) := fun s => match s with
  | v2 => bd_X10_isAtRest_0 t_persons t_deals t_borrower t_borrowerGain t_either t_lender t_lenderGain p1 v2
noncomputable def gn_X10_isAtRest_0 (t_persons : Int32) (t_deals : Int32) (t_borrower : Nat → Int32) (t_borrowerGain : Nat → Int32) (t_either : Nat → Int32) (t_lender : Nat → Int32) (t_lenderGain : Nat → Int32) (p1 : Int32) (v2 : Int32) : Option (Bool) := lpC (st_X10_isAtRest t_persons t_deals t_borrower t_borrowerGain t_either t_lender t_lenderGain p1) (v2)
theorem gq_X10_isAtRest_0 (t_persons : Int32) (t_deals : Int32) (t_borrower : Nat → Int32) (t_borrowerGain : Nat → Int32) (t_either : Nat → Int32) (t_lender : Nat → Int32) (t_lenderGain : Nat → Int32) (p1 : Int32) (v2 : Int32) : gn_X10_isAtRest_0 t_persons t_deals t_borrower t_borrowerGain t_either t_lender t_lenderGain p1 v2 =
    if t_persons ≤ v2 then
      some true
    else
      Option.bind (dn_X10_hasMoreByChange t_deals t_borrower t_borrowerGain t_either t_lender t_lenderGain v2 p1) fun q2 =>
      if q2 = true then
        some false
      else
        gn_X10_isAtRest_0 t_persons t_deals t_borrower t_borrowerGain t_either t_lender t_lenderGain p1 (v2 + 1) := by
  rw [gn_X10_isAtRest_0, lpC_eq]
  show lpO _ (bd_X10_isAtRest_0 t_persons t_deals t_borrower t_borrowerGain t_either t_lender t_lenderGain p1 v2) = _
  unfold bd_X10_isAtRest_0
  simp only [lpO_ite, lpO_bind, lpO_none, lpO_l, lpO_r]
  try rfl
noncomputable def dn_X10_isAtRest (t_persons : Int32) (t_deals : Int32) (t_borrower : Nat → Int32) (t_borrowerGain : Nat → Int32) (t_either : Nat → Int32) (t_lender : Nat → Int32) (t_lenderGain : Nat → Int32) (p1 : Int32) : Option (Bool) :=
  gn_X10_isAtRest_0 t_persons t_deals t_borrower t_borrowerGain t_either t_lender t_lenderGain p1 0
noncomputable def bd_X10_personsWithDeals_0 (t_deals : Int32) (t_borrower : Nat → Int32) (t_lender : Nat → Int32) (v1 : Int32) (v2 : Int32) : Option (((Int32 × Int32)) ⊕ (Int32)) :=
  if t_deals ≤ v2 then
    some (.inr v1)
  else
    if inb v2 30 = true then
    if inb v2 30 = true then
    some (.inl (v1 ||| (((1 : Int32) <<< ((t_lender (v2).toNatClampNeg) &&& 31)) ||| ((1 : Int32) <<< ((t_borrower (v2).toNatClampNeg) &&& 31))), v2 + 1))
    else none
    else none
noncomputable def st_X10_personsWithDeals (t_deals : Int32) (t_borrower : Nat → Int32) (t_lender : Nat → Int32) : ((Int32 × Int32)) → Option (((Int32 × Int32)) ⊕ (Int32)) := fun s => match s with
  | (v1, v2) => bd_X10_personsWithDeals_0 t_deals t_borrower t_lender v1 v2
noncomputable def gn_X10_personsWithDeals_0 (t_deals : Int32) (t_borrower : Nat → Int32) (t_lender : Nat → Int32) (v1 : Int32) (v2 : Int32) : Option (Int32) := lpC (st_X10_personsWithDeals t_deals t_borrower t_lender) ((v1, v2))
theorem gq_X10_personsWithDeals_0 (t_deals : Int32) (t_borrower : Nat → Int32) (t_lender : Nat → Int32) (v1 : Int32) (v2 : Int32) : gn_X10_personsWithDeals_0 t_deals t_borrower t_lender v1 v2 =
    if t_deals ≤ v2 then
      some v1
    else
      if inb v2 30 = true then
      if inb v2 30 = true then
      gn_X10_personsWithDeals_0 t_deals t_borrower t_lender (v1 ||| (((1 : Int32) <<< ((t_lender (v2).toNatClampNeg) &&& 31)) ||| ((1 : Int32) <<< ((t_borrower (v2).toNatClampNeg) &&& 31)))) (v2 + 1)
      else none
      else none := by
  rw [gn_X10_personsWithDeals_0, lpC_eq]
  show lpO _ (bd_X10_personsWithDeals_0 t_deals t_borrower t_lender v1 v2) = _
  unfold bd_X10_personsWithDeals_0
  simp only [lpO_ite, lpO_bind, lpO_none, lpO_l, lpO_r]
  try rfl
noncomputable def dn_X10_personsWithDeals (t_deals : Int32) (t_borrower : Nat → Int32) (t_lender : Nat → Int32) : Option (Int32) :=
  gn_X10_personsWithDeals_0 t_deals t_borrower t_lender 0 0
noncomputable def bd_X10_allServed_0 (t_deals : Int32) (t_borrower : Nat → Int32) (t_either : Nat → Int32) (t_lender : Nat → Int32) (p1 : Int32) (p2 : Int32) (v3 : Int32) (v4 : Int32) : Option (((Int32 × Int32) ⊕ ((Int32 × Int32))) ⊕ (Bool)) :=
  if t_deals ≤ v4 then
    if (p2 &&& (v3 ^^^ (-1))) = 0 then
      some (.inr true)
    else
      some (.inr false)
  else
    if inb v4 30 = true then
    if ((p1 >>> ((t_lender (v4).toNatClampNeg) &&& 31)) &&& 1) = 1 then
      if inb v4 30 = true then
      some (.inl (.inr ((v3 ||| ((1 : Int32) <<< ((t_borrower (v4).toNatClampNeg) &&& 31)), v4))))
      else none
    else
      some (.inl (.inr ((v3, v4))))
    else none
noncomputable def bd_X10_allServed_1 (t_deals : Int32) (t_borrower : Nat → Int32) (t_either : Nat → Int32) (t_lender : Nat → Int32) (p1 : Int32) (p2 : Int32) (v3 : Int32) (v4 : Int32) : Option (((Int32 × Int32) ⊕ ((Int32 × Int32))) ⊕ (Bool)) :=
  if inb v4 30 = true then
  if (t_either (v4).toNatClampNeg) = 1 then
    if inb v4 30 = true then
    if ((p1 >>> ((t_borrower (v4).toNatClampNeg) &&& 31)) &&& 1) = 1 then
      if inb v4 30 = true then
      some (.inl (.inl (v3 ||| ((1 : Int32) <<< ((t_lender (v4).toNatClampNeg) &&& 31)), v4 + 1)))
      else none
    else
      some (.inl (.inl (v3, v4 + 1)))
    else none
  else
    some (.inl (.inl (v3, v4 + 1)))
  else none
noncomputable def st_X10_allServed (t_deals : Int32) (t_borrower : Nat → Int32) (t_either : Nat → Int32) (t_lender : Nat → Int32) (p1 : Int32) (p2 : Int32) : ((Int32 × Int32) ⊕ ((Int32 × Int32))) → Option (((Int32 × Int32) ⊕ ((Int32 × Int32))) ⊕ (Bool)) := fun s => match s with
  | .inl (v3, v4) => bd_X10_allServed_0 t_deals t_borrower t_either t_lender p1 p2 v3 v4
  | .inr ((v3, v4)) => bd_X10_allServed_1 t_deals t_borrower t_either t_lender p1 p2 v3 v4
noncomputable def gn_X10_allServed_0 (t_deals : Int32) (t_borrower : Nat → Int32) (t_either : Nat → Int32) (t_lender : Nat → Int32) (p1 : Int32) (p2 : Int32) (v3 : Int32) (v4 : Int32) : Option (Bool) := lpC (st_X10_allServed t_deals t_borrower t_either t_lender p1 p2) (.inl (v3, v4))
noncomputable def gn_X10_allServed_1 (t_deals : Int32) (t_borrower : Nat → Int32) (t_either : Nat → Int32) (t_lender : Nat → Int32) (p1 : Int32) (p2 : Int32) (v3 : Int32) (v4 : Int32) : Option (Bool) := lpC (st_X10_allServed t_deals t_borrower t_either t_lender p1 p2) (.inr ((v3, v4)))
theorem gq_X10_allServed_0 (t_deals : Int32) (t_borrower : Nat → Int32) (t_either : Nat → Int32) (t_lender : Nat → Int32) (p1 : Int32) (p2 : Int32) (v3 : Int32) (v4 : Int32) : gn_X10_allServed_0 t_deals t_borrower t_either t_lender p1 p2 v3 v4 =
    if t_deals ≤ v4 then
      if (p2 &&& (v3 ^^^ (-1))) = 0 then
        some true
      else
        some false
    else
      if inb v4 30 = true then
      if ((p1 >>> ((t_lender (v4).toNatClampNeg) &&& 31)) &&& 1) = 1 then
        if inb v4 30 = true then
        gn_X10_allServed_1 t_deals t_borrower t_either t_lender p1 p2 (v3 ||| ((1 : Int32) <<< ((t_borrower (v4).toNatClampNeg) &&& 31))) v4
        else none
      else
        gn_X10_allServed_1 t_deals t_borrower t_either t_lender p1 p2 v3 v4
      else none := by
  rw [gn_X10_allServed_0, lpC_eq]
  show lpO _ (bd_X10_allServed_0 t_deals t_borrower t_either t_lender p1 p2 v3 v4) = _
  unfold bd_X10_allServed_0
  simp only [lpO_ite, lpO_bind, lpO_none, lpO_l, lpO_r]
  try rfl
theorem gq_X10_allServed_1 (t_deals : Int32) (t_borrower : Nat → Int32) (t_either : Nat → Int32) (t_lender : Nat → Int32) (p1 : Int32) (p2 : Int32) (v3 : Int32) (v4 : Int32) : gn_X10_allServed_1 t_deals t_borrower t_either t_lender p1 p2 v3 v4 =
    if inb v4 30 = true then
    if (t_either (v4).toNatClampNeg) = 1 then
      if inb v4 30 = true then
      if ((p1 >>> ((t_borrower (v4).toNatClampNeg) &&& 31)) &&& 1) = 1 then
        if inb v4 30 = true then
        gn_X10_allServed_0 t_deals t_borrower t_either t_lender p1 p2 (v3 ||| ((1 : Int32) <<< ((t_lender (v4).toNatClampNeg) &&& 31))) (v4 + 1)
        else none
      else
        gn_X10_allServed_0 t_deals t_borrower t_either t_lender p1 p2 v3 (v4 + 1)
      else none
    else
      gn_X10_allServed_0 t_deals t_borrower t_either t_lender p1 p2 v3 (v4 + 1)
    else none := by
  rw [gn_X10_allServed_1, lpC_eq]
  show lpO _ (bd_X10_allServed_1 t_deals t_borrower t_either t_lender p1 p2 v3 v4) = _
  unfold bd_X10_allServed_1
  simp only [lpO_ite, lpO_bind, lpO_none, lpO_l, lpO_r]
  try rfl
noncomputable def dn_X10_allServed (t_deals : Int32) (t_borrower : Nat → Int32) (t_either : Nat → Int32) (t_lender : Nat → Int32) (p1 : Int32) (p2 : Int32) : Option (Bool) :=
  gn_X10_allServed_0 t_deals t_borrower t_either t_lender p1 p2 p1 0
noncomputable def dn_X0_clear  : Option (Int32) :=
  some 0
noncomputable def dn_X0_copyFrom (t_deal : Nat → Int32) (t_foundNothing : Nat → Int32) (t_way : Nat → Int32) (p1_size : Int32) (p1_deal : Nat → Int32) (p1_foundNothing : Nat → Int32) (p1_way : Nat → Int32) : Option ((Nat → Int32) × (Nat → Int32) × (Nat → Int32) × Int32) :=
  some (va_cpy p1_deal t_deal (0 : Int32).toNatClampNeg (0 : Int32).toNatClampNeg (30 : Int32).toNatClampNeg, va_cpy p1_way t_way (0 : Int32).toNatClampNeg (0 : Int32).toNatClampNeg (30 : Int32).toNatClampNeg, va_cpy p1_foundNothing t_foundNothing (0 : Int32).toNatClampNeg (0 : Int32).toNatClampNeg (30 : Int32).toNatClampNeg, p1_size)
noncomputable def bd_X0_wayDone_0 (t_size : Int32) (t_deal : Nat → Int32) (t_way : Nat → Int32) (p1 : Int32) (v2 : Int32) : Option (((Int32)) ⊕ (Int32)) :=
  if t_size ≤ v2 then
    some (.inr 0)
  else
    if inb v2 30 = true then
    if (t_deal (v2).toNatClampNeg) = p1 then
      if inb v2 30 = true then
      some (.inr (t_way (v2).toNatClampNeg))
      else none
    else
      some (.inl (v2 + 1))
    else none
noncomputable def st_X0_wayDone (t_size : Int32) (t_deal : Nat → Int32) (t_way : Nat → Int32) (p1 : Int32) : ((Int32)) → Option (((Int32)) ⊕ (Int32)) := fun s => match s with
  | v2 => bd_X0_wayDone_0 t_size t_deal t_way p1 v2
noncomputable def gn_X0_wayDone_0 (t_size : Int32) (t_deal : Nat → Int32) (t_way : Nat → Int32) (p1 : Int32) (v2 : Int32) : Option (Int32) := lpC (st_X0_wayDone t_size t_deal t_way p1) (v2)
theorem gq_X0_wayDone_0 (t_size : Int32) (t_deal : Nat → Int32) (t_way : Nat → Int32) (p1 : Int32) (v2 : Int32) : gn_X0_wayDone_0 t_size t_deal t_way p1 v2 =
    if t_size ≤ v2 then
      some 0
    else
      if inb v2 30 = true then
      if (t_deal (v2).toNatClampNeg) = p1 then
        if inb v2 30 = true then
        some (t_way (v2).toNatClampNeg)
        else none
      else
        gn_X0_wayDone_0 t_size t_deal t_way p1 (v2 + 1)
      else none := by
  rw [gn_X0_wayDone_0, lpC_eq]
  show lpO _ (bd_X0_wayDone_0 t_size t_deal t_way p1 v2) = _
  unfold bd_X0_wayDone_0
  simp only [lpO_ite, lpO_bind, lpO_none, lpO_l, lpO_r]
  try rfl
noncomputable def dn_X0_wayDone (t_size : Int32) (t_deal : Nat → Int32) (t_way : Nat → Int32) (p1 : Int32) : Option (Int32) :=
  gn_X0_wayDone_0 t_size t_deal t_way p1 0
noncomputable def bd_X0_whatIs_0 (t_deal : Nat → Int32) (t_foundNothing : Nat → Int32) (t_way : Nat → Int32) (p1_lawYears : Int32) (p1_borrower : Nat → Int32) (p1_lender : Nat → Int32) (p1_year : Nat → Int32) (p2 : Int32) (p3 : Int32) (v4 : Int32) : Option (((Int32) ⊕ ((Int32 × Int32 × Int32) ⊕ ((Int32 × Int32)))) ⊕ (Int32)) :=
  if v4 < 0 then
    some (.inr 0)
  else
    if inb v4 30 = true then
    if inb (t_deal (v4).toNatClampNeg) 30 = true then
    if p3 < (p1_year ((t_deal (v4).toNatClampNeg)).toNatClampNeg) then
      some (.inl (.inl (v4 + (-1))))
    else
      if inb v4 30 = true then
      if (((t_foundNothing (v4).toNatClampNeg) >>> (p2 &&& 31)) &&& 1) = 1 then
        if p1_lawYears = 0 then
          some (.inl (.inr (.inl (v4, t_deal (v4).toNatClampNeg, 1))))
        else
          if inb (t_deal (v4).toNatClampNeg) 30 = true then
          if ((p1_year ((t_deal (v4).toNatClampNeg)).toNatClampNeg) + p1_lawYears) ≤ p3 then
            some (.inl (.inr (.inl (v4, t_deal (v4).toNatClampNeg, 0))))
          else
            some (.inl (.inr (.inl (v4, t_deal (v4).toNatClampNeg, 1))))
          else none
      else
        some (.inl (.inl (v4 + (-1))))
      else none
    else none
    else none
noncomputable def bd_X0_whatIs_1 (t_deal : Nat → Int32) (t_foundNothing : Nat → Int32) (t_way : Nat → Int32) (p1_lawYears : Int32) (p1_borrower : Nat → Int32) (p1_lender : Nat → Int32) (p1_year : Nat → Int32) (p2 : Int32) (p3 : Int32) (v4 : Int32) (v5 : Int32) (k0 : Int32) : Option (((Int32) ⊕ ((Int32 × Int32 × Int32) ⊕ ((Int32 × Int32)))) ⊕ (Int32)) :=
  if inb v4 30 = true then
  if (t_way (v4).toNatClampNeg) = 2 then
    if inb v5 30 = true then
    some (.inl (.inr (.inr ((k0, p1_borrower (v5).toNatClampNeg)))))
    else none
  else
    if inb v5 30 = true then
    some (.inl (.inr (.inr ((k0, p1_lender (v5).toNatClampNeg)))))
    else none
  else none
noncomputable def bd_X0_whatIs_2 (t_deal : Nat → Int32) (t_foundNothing : Nat → Int32) (t_way : Nat → Int32) (p1_lawYears : Int32) (p1_borrower : Nat → Int32) (p1_lender : Nat → Int32) (p1_year : Nat → Int32) (p2 : Int32) (p3 : Int32) (v6 : Int32) (k0 : Int32) : Option (((Int32) ⊕ ((Int32 × Int32 × Int32) ⊕ ((Int32 × Int32)))) ⊕ (Int32)) :=
  if v6 = 0 then
    some (.inr 0)
  else
    if k0 = p2 then
      some (.inr 1)
    else
      some (.inr 2)
noncomputable def st_X0_whatIs (t_deal : Nat → Int32) (t_foundNothing : Nat → Int32) (t_way : Nat → Int32) (p1_lawYears : Int32) (p1_borrower : Nat → Int32) (p1_lender : Nat → Int32) (p1_year : Nat → Int32) (p2 : Int32) (p3 : Int32) : ((Int32) ⊕ ((Int32 × Int32 × Int32) ⊕ ((Int32 × Int32)))) → Option (((Int32) ⊕ ((Int32 × Int32 × Int32) ⊕ ((Int32 × Int32)))) ⊕ (Int32)) := fun s => match s with
  | .inl v4 => bd_X0_whatIs_0 t_deal t_foundNothing t_way p1_lawYears p1_borrower p1_lender p1_year p2 p3 v4
  | .inr (.inl (v4, v5, k0)) => bd_X0_whatIs_1 t_deal t_foundNothing t_way p1_lawYears p1_borrower p1_lender p1_year p2 p3 v4 v5 k0
  | .inr (.inr ((v6, k0))) => bd_X0_whatIs_2 t_deal t_foundNothing t_way p1_lawYears p1_borrower p1_lender p1_year p2 p3 v6 k0
noncomputable def gn_X0_whatIs_0 (t_deal : Nat → Int32) (t_foundNothing : Nat → Int32) (t_way : Nat → Int32) (p1_lawYears : Int32) (p1_borrower : Nat → Int32) (p1_lender : Nat → Int32) (p1_year : Nat → Int32) (p2 : Int32) (p3 : Int32) (v4 : Int32) : Option (Int32) := lpC (st_X0_whatIs t_deal t_foundNothing t_way p1_lawYears p1_borrower p1_lender p1_year p2 p3) (.inl v4)
noncomputable def gn_X0_whatIs_1 (t_deal : Nat → Int32) (t_foundNothing : Nat → Int32) (t_way : Nat → Int32) (p1_lawYears : Int32) (p1_borrower : Nat → Int32) (p1_lender : Nat → Int32) (p1_year : Nat → Int32) (p2 : Int32) (p3 : Int32) (v4 : Int32) (v5 : Int32) (k0 : Int32) : Option (Int32) := lpC (st_X0_whatIs t_deal t_foundNothing t_way p1_lawYears p1_borrower p1_lender p1_year p2 p3) (.inr (.inl (v4, v5, k0)))
noncomputable def gn_X0_whatIs_2 (t_deal : Nat → Int32) (t_foundNothing : Nat → Int32) (t_way : Nat → Int32) (p1_lawYears : Int32) (p1_borrower : Nat → Int32) (p1_lender : Nat → Int32) (p1_year : Nat → Int32) (p2 : Int32) (p3 : Int32) (v6 : Int32) (k0 : Int32) : Option (Int32) := lpC (st_X0_whatIs t_deal t_foundNothing t_way p1_lawYears p1_borrower p1_lender p1_year p2 p3) (.inr (.inr ((v6, k0))))
theorem gq_X0_whatIs_0 (t_deal : Nat → Int32) (t_foundNothing : Nat → Int32) (t_way : Nat → Int32) (p1_lawYears : Int32) (p1_borrower : Nat → Int32) (p1_lender : Nat → Int32) (p1_year : Nat → Int32) (p2 : Int32) (p3 : Int32) (v4 : Int32) : gn_X0_whatIs_0 t_deal t_foundNothing t_way p1_lawYears p1_borrower p1_lender p1_year p2 p3 v4 =
    if v4 < 0 then
      some 0
    else
      if inb v4 30 = true then
      if inb (t_deal (v4).toNatClampNeg) 30 = true then
      if p3 < (p1_year ((t_deal (v4).toNatClampNeg)).toNatClampNeg) then
        gn_X0_whatIs_0 t_deal t_foundNothing t_way p1_lawYears p1_borrower p1_lender p1_year p2 p3 (v4 + (-1))
      else
        if inb v4 30 = true then
        if (((t_foundNothing (v4).toNatClampNeg) >>> (p2 &&& 31)) &&& 1) = 1 then
          if p1_lawYears = 0 then
            gn_X0_whatIs_1 t_deal t_foundNothing t_way p1_lawYears p1_borrower p1_lender p1_year p2 p3 v4 (t_deal (v4).toNatClampNeg) 1
          else
            if inb (t_deal (v4).toNatClampNeg) 30 = true then
            if ((p1_year ((t_deal (v4).toNatClampNeg)).toNatClampNeg) + p1_lawYears) ≤ p3 then
              gn_X0_whatIs_1 t_deal t_foundNothing t_way p1_lawYears p1_borrower p1_lender p1_year p2 p3 v4 (t_deal (v4).toNatClampNeg) 0
            else
              gn_X0_whatIs_1 t_deal t_foundNothing t_way p1_lawYears p1_borrower p1_lender p1_year p2 p3 v4 (t_deal (v4).toNatClampNeg) 1
            else none
        else
          gn_X0_whatIs_0 t_deal t_foundNothing t_way p1_lawYears p1_borrower p1_lender p1_year p2 p3 (v4 + (-1))
        else none
      else none
      else none := by
  rw [gn_X0_whatIs_0, lpC_eq]
  show lpO _ (bd_X0_whatIs_0 t_deal t_foundNothing t_way p1_lawYears p1_borrower p1_lender p1_year p2 p3 v4) = _
  unfold bd_X0_whatIs_0
  simp only [lpO_ite, lpO_bind, lpO_none, lpO_l, lpO_r]
  try rfl
theorem gq_X0_whatIs_1 (t_deal : Nat → Int32) (t_foundNothing : Nat → Int32) (t_way : Nat → Int32) (p1_lawYears : Int32) (p1_borrower : Nat → Int32) (p1_lender : Nat → Int32) (p1_year : Nat → Int32) (p2 : Int32) (p3 : Int32) (v4 : Int32) (v5 : Int32) (k0 : Int32) : gn_X0_whatIs_1 t_deal t_foundNothing t_way p1_lawYears p1_borrower p1_lender p1_year p2 p3 v4 v5 k0 =
    if inb v4 30 = true then
    if (t_way (v4).toNatClampNeg) = 2 then
      if inb v5 30 = true then
      gn_X0_whatIs_2 t_deal t_foundNothing t_way p1_lawYears p1_borrower p1_lender p1_year p2 p3 k0 (p1_borrower (v5).toNatClampNeg)
      else none
    else
      if inb v5 30 = true then
      gn_X0_whatIs_2 t_deal t_foundNothing t_way p1_lawYears p1_borrower p1_lender p1_year p2 p3 k0 (p1_lender (v5).toNatClampNeg)
      else none
    else none := by
  rw [gn_X0_whatIs_1, lpC_eq]
  show lpO _ (bd_X0_whatIs_1 t_deal t_foundNothing t_way p1_lawYears p1_borrower p1_lender p1_year p2 p3 v4 v5 k0) = _
  unfold bd_X0_whatIs_1
  simp only [lpO_ite, lpO_bind, lpO_none, lpO_l, lpO_r]
  try rfl
theorem gq_X0_whatIs_2 (t_deal : Nat → Int32) (t_foundNothing : Nat → Int32) (t_way : Nat → Int32) (p1_lawYears : Int32) (p1_borrower : Nat → Int32) (p1_lender : Nat → Int32) (p1_year : Nat → Int32) (p2 : Int32) (p3 : Int32) (v6 : Int32) (k0 : Int32) : gn_X0_whatIs_2 t_deal t_foundNothing t_way p1_lawYears p1_borrower p1_lender p1_year p2 p3 v6 k0 =
    if v6 = 0 then
      some 0
    else
      if k0 = p2 then
        some 1
      else
        some 2 := by
  rw [gn_X0_whatIs_2, lpC_eq]
  show lpO _ (bd_X0_whatIs_2 t_deal t_foundNothing t_way p1_lawYears p1_borrower p1_lender p1_year p2 p3 v6 k0) = _
  unfold bd_X0_whatIs_2
  simp only [lpO_ite, lpO_bind, lpO_none, lpO_l, lpO_r]
  try rfl
noncomputable def dn_X0_whatIs (t_size : Int32) (t_deal : Nat → Int32) (t_foundNothing : Nat → Int32) (t_way : Nat → Int32) (p1_lawYears : Int32) (p1_borrower : Nat → Int32) (p1_lender : Nat → Int32) (p1_year : Nat → Int32) (p2 : Int32) (p3 : Int32) : Option (Int32) :=
  gn_X0_whatIs_0 t_deal t_foundNothing t_way p1_lawYears p1_borrower p1_lender p1_year p2 p3 (t_size - 1)
noncomputable def bd_X0_didAll_0 (t_size : Int32) (t_deal : Nat → Int32) (p1_borrower : Nat → Int32) (p1_lender : Nat → Int32) (p1_limit : Nat → Int32) (p1_year : Nat → Int32) (p2 : Int32) (p3 : Int32) (v4 : Int32) (v5 : Int32) : Option (((Int32 × Int32)) ⊕ (Bool)) :=
  if t_size ≤ v5 then
    if inb p2 10 = true then
    if v4 < (p1_limit (p2).toNatClampNeg) then
      some (.inr false)
    else
      some (.inr true)
    else none
  else
    if inb v5 30 = true then
    if inb (t_deal (v5).toNatClampNeg) 30 = true then
    if (p1_year ((t_deal (v5).toNatClampNeg)).toNatClampNeg) = p3 then
      if inb v5 30 = true then
      Option.bind (dn_X10_isIn p1_borrower p1_lender (t_deal (v5).toNatClampNeg) p2) fun q8 =>
      if q8 = true then
        some (.inl (v4 + 1, v5 + 1))
      else
        some (.inl (v4, v5 + 1))
      else none
    else
      some (.inl (v4, v5 + 1))
    else none
    else none
noncomputable def st_X0_didAll (t_size : Int32) (t_deal : Nat → Int32) (p1_borrower : Nat → Int32) (p1_lender : Nat → Int32) (p1_limit : Nat → Int32) (p1_year : Nat → Int32) (p2 : Int32) (p3 : Int32) : ((Int32 × Int32)) → Option (((Int32 × Int32)) ⊕ (Bool)) := fun s => match s with
  | (v4, v5) => bd_X0_didAll_0 t_size t_deal p1_borrower p1_lender p1_limit p1_year p2 p3 v4 v5
noncomputable def gn_X0_didAll_0 (t_size : Int32) (t_deal : Nat → Int32) (p1_borrower : Nat → Int32) (p1_lender : Nat → Int32) (p1_limit : Nat → Int32) (p1_year : Nat → Int32) (p2 : Int32) (p3 : Int32) (v4 : Int32) (v5 : Int32) : Option (Bool) := lpC (st_X0_didAll t_size t_deal p1_borrower p1_lender p1_limit p1_year p2 p3) ((v4, v5))
theorem gq_X0_didAll_0 (t_size : Int32) (t_deal : Nat → Int32) (p1_borrower : Nat → Int32) (p1_lender : Nat → Int32) (p1_limit : Nat → Int32) (p1_year : Nat → Int32) (p2 : Int32) (p3 : Int32) (v4 : Int32) (v5 : Int32) : gn_X0_didAll_0 t_size t_deal p1_borrower p1_lender p1_limit p1_year p2 p3 v4 v5 =
    if t_size ≤ v5 then
      if inb p2 10 = true then
      if v4 < (p1_limit (p2).toNatClampNeg) then
        some false
      else
        some true
      else none
    else
      if inb v5 30 = true then
      if inb (t_deal (v5).toNatClampNeg) 30 = true then
      if (p1_year ((t_deal (v5).toNatClampNeg)).toNatClampNeg) = p3 then
        if inb v5 30 = true then
        Option.bind (dn_X10_isIn p1_borrower p1_lender (t_deal (v5).toNatClampNeg) p2) fun q8 =>
        if q8 = true then
          gn_X0_didAll_0 t_size t_deal p1_borrower p1_lender p1_limit p1_year p2 p3 (v4 + 1) (v5 + 1)
        else
          gn_X0_didAll_0 t_size t_deal p1_borrower p1_lender p1_limit p1_year p2 p3 v4 (v5 + 1)
        else none
      else
        gn_X0_didAll_0 t_size t_deal p1_borrower p1_lender p1_limit p1_year p2 p3 v4 (v5 + 1)
      else none
      else none := by
  rw [gn_X0_didAll_0, lpC_eq]
  show lpO _ (bd_X0_didAll_0 t_size t_deal p1_borrower p1_lender p1_limit p1_year p2 p3 v4 v5) = _
  unfold bd_X0_didAll_0
  simp only [lpO_ite, lpO_bind, lpO_none, lpO_l, lpO_r]
  try rfl
noncomputable def dn_X0_didAll (t_size : Int32) (t_deal : Nat → Int32) (p1_borrower : Nat → Int32) (p1_lender : Nat → Int32) (p1_limit : Nat → Int32) (p1_year : Nat → Int32) (p2 : Int32) (p3 : Int32) : Option (Bool) :=
  gn_X0_didAll_0 t_size t_deal p1_borrower p1_lender p1_limit p1_year p2 p3 0 0
noncomputable def bd_X0_wrongOf_0 (t_size : Int32) (t_deal : Nat → Int32) (t_foundNothing : Nat → Int32) (t_way : Nat → Int32) (p1_lawYears : Int32) (p1_borrower : Nat → Int32) (p1_lender : Nat → Int32) (p1_limit : Nat → Int32) (p1_year : Nat → Int32) (p2 : Int32) (p3 : Int32)  : Option (((Unit) ⊕ ((Int32) ⊕ ((Int32 × Int32)))) ⊕ (Int32)) :=
  if inb p2 30 = true then
  if t_size ≤ 0 then
    some (.inl (.inr (.inl (p1_year (p2).toNatClampNeg))))
  else
    if inb (t_size - 1) 30 = true then
    if inb (t_deal ((t_size - 1)).toNatClampNeg) 30 = true then
    if (p1_year ((t_deal ((t_size - 1)).toNatClampNeg)).toNatClampNeg) ≤ (p1_year (p2).toNatClampNeg) then
      some (.inl (.inr (.inl (p1_year (p2).toNatClampNeg))))
    else
      some (.inr 3)
    else none
    else none
  else none
noncomputable def bd_X0_wrongOf_1 (t_size : Int32) (t_deal : Nat → Int32) (t_foundNothing : Nat → Int32) (t_way : Nat → Int32) (p1_lawYears : Int32) (p1_borrower : Nat → Int32) (p1_lender : Nat → Int32) (p1_limit : Nat → Int32) (p1_year : Nat → Int32) (p2 : Int32) (p3 : Int32) (v4 : Int32) : Option (((Unit) ⊕ ((Int32) ⊕ ((Int32 × Int32)))) ⊕ (Int32)) :=
  if p3 = 2 then
    if inb p2 30 = true then
    some (.inl (.inr (.inr ((v4, p1_borrower (p2).toNatClampNeg)))))
    else none
  else
    if inb p2 30 = true then
    some (.inl (.inr (.inr ((v4, p1_lender (p2).toNatClampNeg)))))
    else none
noncomputable def bd_X0_wrongOf_2 (t_size : Int32) (t_deal : Nat → Int32) (t_foundNothing : Nat → Int32) (t_way : Nat → Int32) (p1_lawYears : Int32) (p1_borrower : Nat → Int32) (p1_lender : Nat → Int32) (p1_limit : Nat → Int32) (p1_year : Nat → Int32) (p2 : Int32) (p3 : Int32) (v4 : Int32) (k0 : Int32) : Option (((Unit) ⊕ ((Int32) ⊕ ((Int32 × Int32)))) ⊕ (Int32)) :=
  Option.bind (dn_X10_otherIn p1_borrower p1_lender p2 k0) fun q14 =>
  Option.bind (dn_X0_whatIs t_size t_deal t_foundNothing t_way p1_lawYears p1_borrower p1_lender p1_year k0 v4) fun q15 =>
  if q15 = 2 then
    some (.inr 4)
  else
    Option.bind (dn_X0_whatIs t_size t_deal t_foundNothing t_way p1_lawYears p1_borrower p1_lender p1_year q14 v4) fun q17 =>
    if q17 = 1 then
      some (.inr 5)
    else
      Option.bind (dn_X0_didAll t_size t_deal p1_borrower p1_lender p1_limit p1_year k0 v4) fun q19 =>
      if q19 = true then
        some (.inr 6)
      else
        Option.bind (dn_X0_didAll t_size t_deal p1_borrower p1_lender p1_limit p1_year q14 v4) fun q21 =>
        if q21 = true then
          some (.inr 6)
        else
          some (.inr 0)
noncomputable def st_X0_wrongOf (t_size : Int32) (t_deal : Nat → Int32) (t_foundNothing : Nat → Int32) (t_way : Nat → Int32) (p1_lawYears : Int32) (p1_borrower : Nat → Int32) (p1_lender : Nat → Int32) (p1_limit : Nat → Int32) (p1_year : Nat → Int32) (p2 : Int32) (p3 : Int32) : ((Unit) ⊕ ((Int32) ⊕ ((Int32 × Int32)))) → Option (((Unit) ⊕ ((Int32) ⊕ ((Int32 × Int32)))) ⊕ (Int32)) := fun s => match s with
  | .inl () => bd_X0_wrongOf_0 t_size t_deal t_foundNothing t_way p1_lawYears p1_borrower p1_lender p1_limit p1_year p2 p3 
  | .inr (.inl v4) => bd_X0_wrongOf_1 t_size t_deal t_foundNothing t_way p1_lawYears p1_borrower p1_lender p1_limit p1_year p2 p3 v4
  | .inr (.inr ((v4, k0))) => bd_X0_wrongOf_2 t_size t_deal t_foundNothing t_way p1_lawYears p1_borrower p1_lender p1_limit p1_year p2 p3 v4 k0
noncomputable def gn_X0_wrongOf_0 (t_size : Int32) (t_deal : Nat → Int32) (t_foundNothing : Nat → Int32) (t_way : Nat → Int32) (p1_lawYears : Int32) (p1_borrower : Nat → Int32) (p1_lender : Nat → Int32) (p1_limit : Nat → Int32) (p1_year : Nat → Int32) (p2 : Int32) (p3 : Int32)  : Option (Int32) := lpC (st_X0_wrongOf t_size t_deal t_foundNothing t_way p1_lawYears p1_borrower p1_lender p1_limit p1_year p2 p3) (.inl ())
noncomputable def gn_X0_wrongOf_1 (t_size : Int32) (t_deal : Nat → Int32) (t_foundNothing : Nat → Int32) (t_way : Nat → Int32) (p1_lawYears : Int32) (p1_borrower : Nat → Int32) (p1_lender : Nat → Int32) (p1_limit : Nat → Int32) (p1_year : Nat → Int32) (p2 : Int32) (p3 : Int32) (v4 : Int32) : Option (Int32) := lpC (st_X0_wrongOf t_size t_deal t_foundNothing t_way p1_lawYears p1_borrower p1_lender p1_limit p1_year p2 p3) (.inr (.inl v4))
noncomputable def gn_X0_wrongOf_2 (t_size : Int32) (t_deal : Nat → Int32) (t_foundNothing : Nat → Int32) (t_way : Nat → Int32) (p1_lawYears : Int32) (p1_borrower : Nat → Int32) (p1_lender : Nat → Int32) (p1_limit : Nat → Int32) (p1_year : Nat → Int32) (p2 : Int32) (p3 : Int32) (v4 : Int32) (k0 : Int32) : Option (Int32) := lpC (st_X0_wrongOf t_size t_deal t_foundNothing t_way p1_lawYears p1_borrower p1_lender p1_limit p1_year p2 p3) (.inr (.inr ((v4, k0))))
theorem gq_X0_wrongOf_0 (t_size : Int32) (t_deal : Nat → Int32) (t_foundNothing : Nat → Int32) (t_way : Nat → Int32) (p1_lawYears : Int32) (p1_borrower : Nat → Int32) (p1_lender : Nat → Int32) (p1_limit : Nat → Int32) (p1_year : Nat → Int32) (p2 : Int32) (p3 : Int32)  : gn_X0_wrongOf_0 t_size t_deal t_foundNothing t_way p1_lawYears p1_borrower p1_lender p1_limit p1_year p2 p3  =
    if inb p2 30 = true then
    if t_size ≤ 0 then
      gn_X0_wrongOf_1 t_size t_deal t_foundNothing t_way p1_lawYears p1_borrower p1_lender p1_limit p1_year p2 p3 (p1_year (p2).toNatClampNeg)
    else
      if inb (t_size - 1) 30 = true then
      if inb (t_deal ((t_size - 1)).toNatClampNeg) 30 = true then
      if (p1_year ((t_deal ((t_size - 1)).toNatClampNeg)).toNatClampNeg) ≤ (p1_year (p2).toNatClampNeg) then
        gn_X0_wrongOf_1 t_size t_deal t_foundNothing t_way p1_lawYears p1_borrower p1_lender p1_limit p1_year p2 p3 (p1_year (p2).toNatClampNeg)
      else
        some 3
      else none
      else none
    else none := by
  rw [gn_X0_wrongOf_0, lpC_eq]
  show lpO _ (bd_X0_wrongOf_0 t_size t_deal t_foundNothing t_way p1_lawYears p1_borrower p1_lender p1_limit p1_year p2 p3 ) = _
  unfold bd_X0_wrongOf_0
  simp only [lpO_ite, lpO_bind, lpO_none, lpO_l, lpO_r]
  try rfl
theorem gq_X0_wrongOf_1 (t_size : Int32) (t_deal : Nat → Int32) (t_foundNothing : Nat → Int32) (t_way : Nat → Int32) (p1_lawYears : Int32) (p1_borrower : Nat → Int32) (p1_lender : Nat → Int32) (p1_limit : Nat → Int32) (p1_year : Nat → Int32) (p2 : Int32) (p3 : Int32) (v4 : Int32) : gn_X0_wrongOf_1 t_size t_deal t_foundNothing t_way p1_lawYears p1_borrower p1_lender p1_limit p1_year p2 p3 v4 =
    if p3 = 2 then
      if inb p2 30 = true then
      gn_X0_wrongOf_2 t_size t_deal t_foundNothing t_way p1_lawYears p1_borrower p1_lender p1_limit p1_year p2 p3 v4 (p1_borrower (p2).toNatClampNeg)
      else none
    else
      if inb p2 30 = true then
      gn_X0_wrongOf_2 t_size t_deal t_foundNothing t_way p1_lawYears p1_borrower p1_lender p1_limit p1_year p2 p3 v4 (p1_lender (p2).toNatClampNeg)
      else none := by
  rw [gn_X0_wrongOf_1, lpC_eq]
  show lpO _ (bd_X0_wrongOf_1 t_size t_deal t_foundNothing t_way p1_lawYears p1_borrower p1_lender p1_limit p1_year p2 p3 v4) = _
  unfold bd_X0_wrongOf_1
  simp only [lpO_ite, lpO_bind, lpO_none, lpO_l, lpO_r]
  try rfl
theorem gq_X0_wrongOf_2 (t_size : Int32) (t_deal : Nat → Int32) (t_foundNothing : Nat → Int32) (t_way : Nat → Int32) (p1_lawYears : Int32) (p1_borrower : Nat → Int32) (p1_lender : Nat → Int32) (p1_limit : Nat → Int32) (p1_year : Nat → Int32) (p2 : Int32) (p3 : Int32) (v4 : Int32) (k0 : Int32) : gn_X0_wrongOf_2 t_size t_deal t_foundNothing t_way p1_lawYears p1_borrower p1_lender p1_limit p1_year p2 p3 v4 k0 =
    Option.bind (dn_X10_otherIn p1_borrower p1_lender p2 k0) fun q14 =>
    Option.bind (dn_X0_whatIs t_size t_deal t_foundNothing t_way p1_lawYears p1_borrower p1_lender p1_year k0 v4) fun q15 =>
    if q15 = 2 then
      some 4
    else
      Option.bind (dn_X0_whatIs t_size t_deal t_foundNothing t_way p1_lawYears p1_borrower p1_lender p1_year q14 v4) fun q17 =>
      if q17 = 1 then
        some 5
      else
        Option.bind (dn_X0_didAll t_size t_deal p1_borrower p1_lender p1_limit p1_year k0 v4) fun q19 =>
        if q19 = true then
          some 6
        else
          Option.bind (dn_X0_didAll t_size t_deal p1_borrower p1_lender p1_limit p1_year q14 v4) fun q21 =>
          if q21 = true then
            some 6
          else
            some 0 := by
  rw [gn_X0_wrongOf_2, lpC_eq]
  show lpO _ (bd_X0_wrongOf_2 t_size t_deal t_foundNothing t_way p1_lawYears p1_borrower p1_lender p1_limit p1_year p2 p3 v4 k0) = _
  unfold bd_X0_wrongOf_2
  simp only [lpO_ite, lpO_bind, lpO_none, lpO_l, lpO_r]
  try rfl
noncomputable def dn_X0_wrongOf (t_size : Int32) (t_deal : Nat → Int32) (t_foundNothing : Nat → Int32) (t_way : Nat → Int32) (p1_lawYears : Int32) (p1_borrower : Nat → Int32) (p1_either : Nat → Int32) (p1_lender : Nat → Int32) (p1_limit : Nat → Int32) (p1_year : Nat → Int32) (p2 : Int32) (p3 : Int32) : Option (Int32) :=
  Option.bind (dn_X0_wayDone t_size t_deal t_way p2) fun q1 =>
  if q1 = 0 then
    if p3 = 2 then
      if inb p2 30 = true then
      if (p1_either (p2).toNatClampNeg) = 0 then
        some 2
      else
        gn_X0_wrongOf_0 t_size t_deal t_foundNothing t_way p1_lawYears p1_borrower p1_lender p1_limit p1_year p2 p3
      else none
    else
      gn_X0_wrongOf_0 t_size t_deal t_foundNothing t_way p1_lawYears p1_borrower p1_lender p1_limit p1_year p2 p3
  else
    some 1
noncomputable def bd_X0_tryDeal_0 (p1_lawYears : Int32) (p1_borrower : Nat → Int32) (p1_lender : Nat → Int32) (p1_year : Nat → Int32) (p2 : Int32) (p3 : Int32) (v5 : Int32) (t_deal : Nat → Int32) (t_way : Nat → Int32) (t_foundNothing : Nat → Int32) (t_size : Int32) : Option (((Int32 × (Nat → Int32) × (Nat → Int32) × (Nat → Int32) × Int32) ⊕ ((Int32 × (Nat → Int32) × (Nat → Int32) × (Nat → Int32) × Int32))) ⊕ (Int32 × (Nat → Int32) × (Nat → Int32) × (Nat → Int32) × Int32)) :=
  if inb p2 30 = true then
  if inb p2 30 = true then
  Option.bind (dn_X0_whatIs t_size t_deal t_foundNothing t_way p1_lawYears p1_borrower p1_lender p1_year (p1_borrower (p2).toNatClampNeg) (p1_year (p2).toNatClampNeg)) fun q11 =>
  if q11 = 0 then
    if inb p2 30 = true then
    some (.inl (.inr ((v5 ||| ((1 : Int32) <<< ((p1_borrower (p2).toNatClampNeg) &&& 31)), t_deal, t_way, t_foundNothing, t_size))))
    else none
  else
    some (.inl (.inr ((v5, t_deal, t_way, t_foundNothing, t_size))))
  else none
  else none
noncomputable def bd_X0_tryDeal_1 (p1_lawYears : Int32) (p1_borrower : Nat → Int32) (p1_lender : Nat → Int32) (p1_year : Nat → Int32) (p2 : Int32) (p3 : Int32) (v5 : Int32) (t_deal : Nat → Int32) (t_way : Nat → Int32) (t_foundNothing : Nat → Int32) (t_size : Int32) : Option (((Int32 × (Nat → Int32) × (Nat → Int32) × (Nat → Int32) × Int32) ⊕ ((Int32 × (Nat → Int32) × (Nat → Int32) × (Nat → Int32) × Int32))) ⊕ (Int32 × (Nat → Int32) × (Nat → Int32) × (Nat → Int32) × Int32)) :=
  if inb t_size 30 = true then
  if inb t_size 30 = true then
  if inb t_size 30 = true then
  some (.inr (0, upd t_deal (t_size).toNatClampNeg p2, upd t_way (t_size).toNatClampNeg p3, upd t_foundNothing (t_size).toNatClampNeg v5, t_size + 1))
  else none
  else none
  else none
noncomputable def st_X0_tryDeal (p1_lawYears : Int32) (p1_borrower : Nat → Int32) (p1_lender : Nat → Int32) (p1_year : Nat → Int32) (p2 : Int32) (p3 : Int32) : ((Int32 × (Nat → Int32) × (Nat → Int32) × (Nat → Int32) × Int32) ⊕ ((Int32 × (Nat → Int32) × (Nat → Int32) × (Nat → Int32) × Int32))) → Option (((Int32 × (Nat → Int32) × (Nat → Int32) × (Nat → Int32) × Int32) ⊕ ((Int32 × (Nat → Int32) × (Nat → Int32) × (Nat → Int32) × Int32))) ⊕ (Int32 × (Nat → Int32) × (Nat → Int32) × (Nat → Int32) × Int32)) := fun s => match s with
  | .inl (v5, t_deal, t_way, t_foundNothing, t_size) => bd_X0_tryDeal_0 p1_lawYears p1_borrower p1_lender p1_year p2 p3 v5 t_deal t_way t_foundNothing t_size
  | .inr ((v5, t_deal, t_way, t_foundNothing, t_size)) => bd_X0_tryDeal_1 p1_lawYears p1_borrower p1_lender p1_year p2 p3 v5 t_deal t_way t_foundNothing t_size
noncomputable def gn_X0_tryDeal_0 (p1_lawYears : Int32) (p1_borrower : Nat → Int32) (p1_lender : Nat → Int32) (p1_year : Nat → Int32) (p2 : Int32) (p3 : Int32) (v5 : Int32) (t_deal : Nat → Int32) (t_way : Nat → Int32) (t_foundNothing : Nat → Int32) (t_size : Int32) : Option (Int32 × (Nat → Int32) × (Nat → Int32) × (Nat → Int32) × Int32) := lpC (st_X0_tryDeal p1_lawYears p1_borrower p1_lender p1_year p2 p3) (.inl (v5, t_deal, t_way, t_foundNothing, t_size))
noncomputable def gn_X0_tryDeal_1 (p1_lawYears : Int32) (p1_borrower : Nat → Int32) (p1_lender : Nat → Int32) (p1_year : Nat → Int32) (p2 : Int32) (p3 : Int32) (v5 : Int32) (t_deal : Nat → Int32) (t_way : Nat → Int32) (t_foundNothing : Nat → Int32) (t_size : Int32) : Option (Int32 × (Nat → Int32) × (Nat → Int32) × (Nat → Int32) × Int32) := lpC (st_X0_tryDeal p1_lawYears p1_borrower p1_lender p1_year p2 p3) (.inr ((v5, t_deal, t_way, t_foundNothing, t_size)))
theorem gq_X0_tryDeal_0 (p1_lawYears : Int32) (p1_borrower : Nat → Int32) (p1_lender : Nat → Int32) (p1_year : Nat → Int32) (p2 : Int32) (p3 : Int32) (v5 : Int32) (t_deal : Nat → Int32) (t_way : Nat → Int32) (t_foundNothing : Nat → Int32) (t_size : Int32) : gn_X0_tryDeal_0 p1_lawYears p1_borrower p1_lender p1_year p2 p3 v5 t_deal t_way t_foundNothing t_size =
    if inb p2 30 = true then
    if inb p2 30 = true then
    Option.bind (dn_X0_whatIs t_size t_deal t_foundNothing t_way p1_lawYears p1_borrower p1_lender p1_year (p1_borrower (p2).toNatClampNeg) (p1_year (p2).toNatClampNeg)) fun q11 =>
    if q11 = 0 then
      if inb p2 30 = true then
      gn_X0_tryDeal_1 p1_lawYears p1_borrower p1_lender p1_year p2 p3 (v5 ||| ((1 : Int32) <<< ((p1_borrower (p2).toNatClampNeg) &&& 31))) t_deal t_way t_foundNothing t_size
      else none
    else
      gn_X0_tryDeal_1 p1_lawYears p1_borrower p1_lender p1_year p2 p3 v5 t_deal t_way t_foundNothing t_size
    else none
    else none := by
  rw [gn_X0_tryDeal_0, lpC_eq]
  show lpO _ (bd_X0_tryDeal_0 p1_lawYears p1_borrower p1_lender p1_year p2 p3 v5 t_deal t_way t_foundNothing t_size) = _
  unfold bd_X0_tryDeal_0
  simp only [lpO_ite, lpO_bind, lpO_none, lpO_l, lpO_r]
  try rfl
theorem gq_X0_tryDeal_1 (p1_lawYears : Int32) (p1_borrower : Nat → Int32) (p1_lender : Nat → Int32) (p1_year : Nat → Int32) (p2 : Int32) (p3 : Int32) (v5 : Int32) (t_deal : Nat → Int32) (t_way : Nat → Int32) (t_foundNothing : Nat → Int32) (t_size : Int32) : gn_X0_tryDeal_1 p1_lawYears p1_borrower p1_lender p1_year p2 p3 v5 t_deal t_way t_foundNothing t_size =
    if inb t_size 30 = true then
    if inb t_size 30 = true then
    if inb t_size 30 = true then
    some (0, upd t_deal (t_size).toNatClampNeg p2, upd t_way (t_size).toNatClampNeg p3, upd t_foundNothing (t_size).toNatClampNeg v5, t_size + 1)
    else none
    else none
    else none := by
  rw [gn_X0_tryDeal_1, lpC_eq]
  show lpO _ (bd_X0_tryDeal_1 p1_lawYears p1_borrower p1_lender p1_year p2 p3 v5 t_deal t_way t_foundNothing t_size) = _
  unfold bd_X0_tryDeal_1
  simp only [lpO_ite, lpO_bind, lpO_none, lpO_l, lpO_r]
  try rfl
noncomputable def dn_X0_tryDeal (t_size : Int32) (t_deal : Nat → Int32) (t_foundNothing : Nat → Int32) (t_way : Nat → Int32) (p1_lawYears : Int32) (p1_borrower : Nat → Int32) (p1_either : Nat → Int32) (p1_lender : Nat → Int32) (p1_limit : Nat → Int32) (p1_year : Nat → Int32) (p2 : Int32) (p3 : Int32) : Option (Int32 × (Nat → Int32) × (Nat → Int32) × (Nat → Int32) × Int32) :=
  Option.bind (dn_X0_wrongOf t_size t_deal t_foundNothing t_way p1_lawYears p1_borrower p1_either p1_lender p1_limit p1_year p2 p3) fun q1 =>
  if q1 = 0 then
    if t_size < 30 then
      if inb p2 30 = true then
      if inb p2 30 = true then
      Option.bind (dn_X0_whatIs t_size t_deal t_foundNothing t_way p1_lawYears p1_borrower p1_lender p1_year (p1_lender (p2).toNatClampNeg) (p1_year (p2).toNatClampNeg)) fun q6 =>
      if q6 = 0 then
        if inb p2 30 = true then
        gn_X0_tryDeal_0 p1_lawYears p1_borrower p1_lender p1_year p2 p3 ((0 : Int32) ||| ((1 : Int32) <<< ((p1_lender (p2).toNatClampNeg) &&& 31))) t_deal t_way t_foundNothing t_size
        else none
      else
        gn_X0_tryDeal_0 p1_lawYears p1_borrower p1_lender p1_year p2 p3 0 t_deal t_way t_foundNothing t_size
      else none
      else none
    else
      some (q1, t_deal, t_way, t_foundNothing, t_size)
  else
    some (q1, t_deal, t_way, t_foundNothing, t_size)
noncomputable def dn_X0_dropLast (t_size : Int32) : Option (Int32) :=
  if t_size ≤ 0 then
    some t_size
  else
    some (t_size - 1)
noncomputable def bd_X0_sharesOf_0 (t_size : Int32) (t_deal : Nat → Int32) (p1_borrower : Nat → Int32) (p1_borrowerGain : Nat → Int32) (p1_lender : Nat → Int32) (p1_lenderGain : Nat → Int32) (p2 : Int32) (v3 : Int32) (v4 : Int32) : Option (((Int32 × Int32)) ⊕ (Int32)) :=
  if t_size ≤ v4 then
    some (.inr v3)
  else
    if inb v4 30 = true then
    Option.bind (dn_X10_shareOf p1_borrower p1_borrowerGain p1_lender p1_lenderGain (t_deal (v4).toNatClampNeg) p2) fun q3 =>
    some (.inl (v3 + q3, v4 + 1))
    else none
noncomputable def st_X0_sharesOf (t_size : Int32) (t_deal : Nat → Int32) (p1_borrower : Nat → Int32) (p1_borrowerGain : Nat → Int32) (p1_lender : Nat → Int32) (p1_lenderGain : Nat → Int32) (p2 : Int32) : ((Int32 × Int32)) → Option (((Int32 × Int32)) ⊕ (Int32)) := fun s => match s with
  | (v3, v4) => bd_X0_sharesOf_0 t_size t_deal p1_borrower p1_borrowerGain p1_lender p1_lenderGain p2 v3 v4
noncomputable def gn_X0_sharesOf_0 (t_size : Int32) (t_deal : Nat → Int32) (p1_borrower : Nat → Int32) (p1_borrowerGain : Nat → Int32) (p1_lender : Nat → Int32) (p1_lenderGain : Nat → Int32) (p2 : Int32) (v3 : Int32) (v4 : Int32) : Option (Int32) := lpC (st_X0_sharesOf t_size t_deal p1_borrower p1_borrowerGain p1_lender p1_lenderGain p2) ((v3, v4))
theorem gq_X0_sharesOf_0 (t_size : Int32) (t_deal : Nat → Int32) (p1_borrower : Nat → Int32) (p1_borrowerGain : Nat → Int32) (p1_lender : Nat → Int32) (p1_lenderGain : Nat → Int32) (p2 : Int32) (v3 : Int32) (v4 : Int32) : gn_X0_sharesOf_0 t_size t_deal p1_borrower p1_borrowerGain p1_lender p1_lenderGain p2 v3 v4 =
    if t_size ≤ v4 then
      some v3
    else
      if inb v4 30 = true then
      Option.bind (dn_X10_shareOf p1_borrower p1_borrowerGain p1_lender p1_lenderGain (t_deal (v4).toNatClampNeg) p2) fun q3 =>
      gn_X0_sharesOf_0 t_size t_deal p1_borrower p1_borrowerGain p1_lender p1_lenderGain p2 (v3 + q3) (v4 + 1)
      else none := by
  rw [gn_X0_sharesOf_0, lpC_eq]
  show lpO _ (bd_X0_sharesOf_0 t_size t_deal p1_borrower p1_borrowerGain p1_lender p1_lenderGain p2 v3 v4) = _
  unfold bd_X0_sharesOf_0
  simp only [lpO_ite, lpO_bind, lpO_none, lpO_l, lpO_r]
  try rfl
noncomputable def dn_X0_sharesOf (t_size : Int32) (t_deal : Nat → Int32) (p1_borrower : Nat → Int32) (p1_borrowerGain : Nat → Int32) (p1_lender : Nat → Int32) (p1_lenderGain : Nat → Int32) (p2 : Int32) : Option (Int32) :=
  gn_X0_sharesOf_0 t_size t_deal p1_borrower p1_borrowerGain p1_lender p1_lenderGain p2 0 0
