noncomputable def dn_X12_does (t_boundAs : Nat → Int32) (t_boundFrom : Nat → Int32) (t_s : Nat → Int32) (p1 : Int32) (p2 : Int32) : Option (Int32 × Int32 × (Nat → Int32) × (Nat → Int32) × (Nat → Int32)) :=
  Option.bind (dn_X12_isDeal t_s p1) fun q1 =>
  if q1 = true then
    Option.bind (dn_X12_isIn p2 0 1) fun q3 =>
    if q3 = true then
      Option.bind (dn_X12_wrong t_boundAs t_boundFrom t_s p1 p2) fun q5 =>
      if q5.1 = 0 then
        Option.bind (dn_X12_put t_s p1 p2) fun q7 =>
        some (q5.1, 0, q5.2.1, q5.2.2, q7)
      else
        some (q5.1, 0, q5.2.1, q5.2.2, t_s)
    else
      some ((-1), 0, t_boundAs, t_boundFrom, t_s)
  else
    some ((-1), 0, t_boundAs, t_boundFrom, t_s)
noncomputable def dn_X12_undo (t_s : Nat → Int32) : Option (Int32 × Int32 × (Nat → Int32)) :=
  if (t_s (3 : Int32).toNatClampNeg) = 0 then
    some ((-1), 0, t_s)
  else
    some ((upd t_s (3 : Int32).toNatClampNeg ((t_s (3 : Int32).toNatClampNeg) - 1)) (3 : Int32).toNatClampNeg, 0, upd t_s (3 : Int32).toNatClampNeg ((t_s (3 : Int32).toNatClampNeg) - 1))
noncomputable def bd_X12_readLine_0 (t_size : Int32) (t_limit : Int32) (t_coming : Int32) (t_tape : Nat → Int32) (k1 : Int32) (k2 : Int32) (t_p : Int32) (t_at : Int32) (t_span : Int32) (t_token : Int32) (t_word : Int64) (t_number : Int32) (t_newDid : Nat → Int32) (t_fault : Int32) (t_faultAt : Int32) (t_newTurn : Nat → Int32) : Option (((Int32 × Int32 × Int32 × Int32 × Int32 × Int32 × Int64 × Int32 × (Nat → Int32) × Int32 × Int32 × (Nat → Int32))) ⊕ (Bool × Int32 × Int32 × Int32 × Int32 × Int64 × Int32 × (Nat → Int32) × Int32 × Int32 × (Nat → Int32))) :=
  if inb k1 40 = true then
  if inb t_coming 40 = true then
  if ((upd t_newTurn (k1).toNatClampNeg k2) (t_coming).toNatClampNeg) = 1 then
    Option.bind (dn_X12_skip t_size t_p t_limit t_token t_at t_span t_number t_word t_tape) fun q16 =>
    some (.inr (true, q16.1, q16.2.1, q16.2.2.1, q16.2.2.2.1, q16.2.2.2.2.1, q16.2.2.2.2.2, t_newDid, t_fault, t_faultAt, upd t_newTurn (k1).toNatClampNeg k2))
  else
    some (.inr (true, t_p, t_at, t_span, t_token, t_word, t_number, t_newDid, t_fault, t_faultAt, upd t_newTurn (k1).toNatClampNeg k2))
  else none
  else none
noncomputable def st_X12_readLine (t_size : Int32) (t_limit : Int32) (t_coming : Int32) (t_tape : Nat → Int32) : ((Int32 × Int32 × Int32 × Int32 × Int32 × Int32 × Int64 × Int32 × (Nat → Int32) × Int32 × Int32 × (Nat → Int32))) → Option (((Int32 × Int32 × Int32 × Int32 × Int32 × Int32 × Int64 × Int32 × (Nat → Int32) × Int32 × Int32 × (Nat → Int32))) ⊕ (Bool × Int32 × Int32 × Int32 × Int32 × Int64 × Int32 × (Nat → Int32) × Int32 × Int32 × (Nat → Int32))) := fun s => match s with
  | (k1, k2, t_p, t_at, t_span, t_token, t_word, t_number, t_newDid, t_fault, t_faultAt, t_newTurn) => bd_X12_readLine_0 t_size t_limit t_coming t_tape k1 k2 t_p t_at t_span t_token t_word t_number t_newDid t_fault t_faultAt t_newTurn
noncomputable def gn_X12_readLine_0 (t_size : Int32) (t_limit : Int32) (t_coming : Int32) (t_tape : Nat → Int32) (k1 : Int32) (k2 : Int32) (t_p : Int32) (t_at : Int32) (t_span : Int32) (t_token : Int32) (t_word : Int64) (t_number : Int32) (t_newDid : Nat → Int32) (t_fault : Int32) (t_faultAt : Int32) (t_newTurn : Nat → Int32) : Option (Bool × Int32 × Int32 × Int32 × Int32 × Int64 × Int32 × (Nat → Int32) × Int32 × Int32 × (Nat → Int32)) := lpC (st_X12_readLine t_size t_limit t_coming t_tape) ((k1, k2, t_p, t_at, t_span, t_token, t_word, t_number, t_newDid, t_fault, t_faultAt, t_newTurn))
theorem gq_X12_readLine_0 (t_size : Int32) (t_limit : Int32) (t_coming : Int32) (t_tape : Nat → Int32) (k1 : Int32) (k2 : Int32) (t_p : Int32) (t_at : Int32) (t_span : Int32) (t_token : Int32) (t_word : Int64) (t_number : Int32) (t_newDid : Nat → Int32) (t_fault : Int32) (t_faultAt : Int32) (t_newTurn : Nat → Int32) : gn_X12_readLine_0 t_size t_limit t_coming t_tape k1 k2 t_p t_at t_span t_token t_word t_number t_newDid t_fault t_faultAt t_newTurn =
    if inb k1 40 = true then
    if inb t_coming 40 = true then
    if ((upd t_newTurn (k1).toNatClampNeg k2) (t_coming).toNatClampNeg) = 1 then
      Option.bind (dn_X12_skip t_size t_p t_limit t_token t_at t_span t_number t_word t_tape) fun q16 =>
      some (true, q16.1, q16.2.1, q16.2.2.1, q16.2.2.2.1, q16.2.2.2.2.1, q16.2.2.2.2.2, t_newDid, t_fault, t_faultAt, upd t_newTurn (k1).toNatClampNeg k2)
    else
      some (true, t_p, t_at, t_span, t_token, t_word, t_number, t_newDid, t_fault, t_faultAt, upd t_newTurn (k1).toNatClampNeg k2)
    else none
    else none := by
  rw [gn_X12_readLine_0, lpC_eq]
  show lpO _ (bd_X12_readLine_0 t_size t_limit t_coming t_tape k1 k2 t_p t_at t_span t_token t_word t_number t_newDid t_fault t_faultAt t_newTurn) = _
  unfold bd_X12_readLine_0
  simp only [lpO_ite, lpO_bind, lpO_none, lpO_l, lpO_r]
  try rfl
noncomputable def dn_X12_readLine (t_size : Int32) (t_p : Int32) (t_limit : Int32) (t_token : Int32) (t_at : Int32) (t_span : Int32) (t_number : Int32) (t_fault : Int32) (t_faultAt : Int32) (t_word : Int64) (t_coming : Int32) (t_names : Nat → Int64) (t_newDid : Nat → Int32) (t_newTurn : Nat → Int32) (t_reserved : Nat → Int64) (t_s : Nat → Int32) (t_tape : Nat → Int32) : Option (Bool × Int32 × Int32 × Int32 × Int32 × Int64 × Int32 × (Nat → Int32) × Int32 × Int32 × (Nat → Int32)) :=
  Option.bind (dn_X12_isName t_token t_word t_reserved) fun q1 =>
  if q1 = true then
    Option.bind (dn_X12_find t_word t_names 10 (t_s (1 : Int32).toNatClampNeg)) fun q3 =>
    if 0 ≤ q3 then
      if t_coming = 40 then
        Option.bind (dn_X12_bad t_at 4) fun q10 =>
        some (q10.1, t_p, t_at, t_span, t_token, t_word, t_number, t_newDid, q10.2.1, q10.2.2, t_newTurn)
      else
        Option.bind (dn_X12_skip t_size t_p t_limit t_token t_at t_span t_number t_word t_tape) fun q6 =>
        if inb t_coming 40 = true then
        Option.bind (dn_X12_isWord q6.2.2.2.1 q6.2.2.2.2.1 128047779833188) fun q8 =>
        if q8 = true then
          gn_X12_readLine_0 t_size t_limit t_coming t_tape t_coming 1 q6.1 q6.2.1 q6.2.2.1 q6.2.2.2.1 q6.2.2.2.2.1 q6.2.2.2.2.2 (upd t_newDid (t_coming).toNatClampNeg q3) t_fault t_faultAt t_newTurn
        else
          gn_X12_readLine_0 t_size t_limit t_coming t_tape t_coming 0 q6.1 q6.2.1 q6.2.2.1 q6.2.2.2.1 q6.2.2.2.2.1 q6.2.2.2.2.2 (upd t_newDid (t_coming).toNatClampNeg q3) t_fault t_faultAt t_newTurn
        else none
    else
      Option.bind (dn_X12_bad t_at 3) fun q11 =>
      some (q11.1, t_p, t_at, t_span, t_token, t_word, t_number, t_newDid, q11.2.1, q11.2.2, t_newTurn)
  else
    Option.bind (dn_X12_bad t_at 1) fun q12 =>
    some (q12.1, t_p, t_at, t_span, t_token, t_word, t_number, t_newDid, q12.2.1, q12.2.2, t_newTurn)
noncomputable def bd_X12_book_0 (t_names : Nat → Int64) (t_reserved : Nat → Int64) (t_tape : Nat → Int32) (t_thrown : Int32) (t_size : Int32) (t_length : Int32) (t_p : Int32) (t_limit : Int32) (t_fault : Int32) (t_why : Int32) (t_coming : Int32) (t_at : Int32) (t_span : Int32) (t_token : Int32) (t_word : Int64) (t_number : Int32) (t_s : Nat → Int32) (t_newDid : Nat → Int32) (t_faultAt : Int32) (t_newTurn : Nat → Int32) (t_boundAs : Nat → Int32) (t_boundFrom : Nat → Int32) : Option (((Int32 × Int32 × Int32 × Int32 × Int32 × Int32 × Int32 × Int32 × Int32 × Int32 × Int32 × Int64 × Int32 × (Nat → Int32) × (Nat → Int32) × Int32 × (Nat → Int32) × (Nat → Int32) × (Nat → Int32)) ⊕ ((Int32 × Int32 × Int32 × Int32 × Int32 × Int32 × Int32 × Int32 × Int32 × Int32 × Int32 × Int32 × Int64 × Int32 × (Nat → Int32) × (Nat → Int32) × Int32 × (Nat → Int32) × (Nat → Int32) × (Nat → Int32)))) ⊕ (Int32 × Int32 × Int32 × Int32 × Int32 × Int32 × Int32 × Int32 × Int32 × Int32 × Int32 × Int32 × Int64 × Int32 × (Nat → Int32) × (Nat → Int32) × Int32 × (Nat → Int32) × (Nat → Int32) × (Nat → Int32))) :=
  if t_token = 0 then
    some (.inl (.inr ((0, t_thrown, t_size, t_length, t_p, t_limit, t_fault, t_why, t_coming, t_at, t_span, t_token, t_word, t_number, upd t_s (3 : Int32).toNatClampNeg 0, t_newDid, t_faultAt, t_newTurn, t_boundAs, t_boundFrom))))
  else
    Option.bind (dn_X12_readLine t_size t_p t_limit t_token t_at t_span t_number t_fault t_faultAt t_word t_coming t_names t_newDid t_newTurn t_reserved t_s t_tape) fun q4 =>
    if q4.1 = true then
      Option.bind (dn_X12_sign t_size q4.2.1 t_limit q4.2.2.2.2.1 q4.2.2.1 q4.2.2.2.1 q4.2.2.2.2.2.2.1 q4.2.2.2.2.2.2.2.2.1 q4.2.2.2.2.2.2.2.2.2.1 q4.2.2.2.2.2.1 t_tape 59) fun q6 =>
      if q6.1 = true then
        some (.inl (.inl (t_thrown, t_size, t_length, q6.2.1, t_limit, q6.2.2.2.2.2.2.2.1, t_why, t_coming + 1, q6.2.2.1, q6.2.2.2.1, q6.2.2.2.2.1, q6.2.2.2.2.2.1, q6.2.2.2.2.2.2.1, t_s, q4.2.2.2.2.2.2.2.1, q6.2.2.2.2.2.2.2.2, q4.2.2.2.2.2.2.2.2.2.2, t_boundAs, t_boundFrom)))
      else
        some (.inr (((-2) : Int32) - q6.2.2.2.2.2.2.2.2, t_thrown, t_size, t_length, q6.2.1, t_limit, q6.2.2.2.2.2.2.2.1, t_why, t_coming, q6.2.2.1, q6.2.2.2.1, q6.2.2.2.2.1, q6.2.2.2.2.2.1, q6.2.2.2.2.2.2.1, t_s, q4.2.2.2.2.2.2.2.1, q6.2.2.2.2.2.2.2.2, q4.2.2.2.2.2.2.2.2.2.2, t_boundAs, t_boundFrom))
    else
      some (.inr (((-2) : Int32) - q4.2.2.2.2.2.2.2.2.2.1, t_thrown, t_size, t_length, q4.2.1, t_limit, q4.2.2.2.2.2.2.2.2.1, t_why, t_coming, q4.2.2.1, q4.2.2.2.1, q4.2.2.2.2.1, q4.2.2.2.2.2.1, q4.2.2.2.2.2.2.1, t_s, q4.2.2.2.2.2.2.2.1, q4.2.2.2.2.2.2.2.2.2.1, q4.2.2.2.2.2.2.2.2.2.2, t_boundAs, t_boundFrom))
noncomputable def bd_X12_book_1 (t_names : Nat → Int64) (t_reserved : Nat → Int64) (t_tape : Nat → Int32) (v1 : Int32) (t_thrown : Int32) (t_size : Int32) (t_length : Int32) (t_p : Int32) (t_limit : Int32) (t_fault : Int32) (t_why : Int32) (t_coming : Int32) (t_at : Int32) (t_span : Int32) (t_token : Int32) (t_word : Int64) (t_number : Int32) (t_s : Nat → Int32) (t_newDid : Nat → Int32) (t_faultAt : Int32) (t_newTurn : Nat → Int32) (t_boundAs : Nat → Int32) (t_boundFrom : Nat → Int32) : Option (((Int32 × Int32 × Int32 × Int32 × Int32 × Int32 × Int32 × Int32 × Int32 × Int32 × Int32 × Int64 × Int32 × (Nat → Int32) × (Nat → Int32) × Int32 × (Nat → Int32) × (Nat → Int32) × (Nat → Int32)) ⊕ ((Int32 × Int32 × Int32 × Int32 × Int32 × Int32 × Int32 × Int32 × Int32 × Int32 × Int32 × Int32 × Int64 × Int32 × (Nat → Int32) × (Nat → Int32) × Int32 × (Nat → Int32) × (Nat → Int32) × (Nat → Int32)))) ⊕ (Int32 × Int32 × Int32 × Int32 × Int32 × Int32 × Int32 × Int32 × Int32 × Int32 × Int32 × Int32 × Int64 × Int32 × (Nat → Int32) × (Nat → Int32) × Int32 × (Nat → Int32) × (Nat → Int32) × (Nat → Int32))) :=
  if t_coming ≤ v1 then
    some (.inr ((-1), t_thrown, t_size, t_length, t_p, t_limit, t_fault, t_why, t_coming, t_at, t_span, t_token, t_word, t_number, t_s, t_newDid, t_faultAt, t_newTurn, t_boundAs, t_boundFrom))
  else
    if inb v1 40 = true then
    if inb v1 40 = true then
    Option.bind (dn_X12_wrong t_boundAs t_boundFrom t_s (t_newDid (v1).toNatClampNeg) (t_newTurn (v1).toNatClampNeg)) fun q11 =>
    if q11.1 ≤ 0 then
      if inb v1 40 = true then
      if inb v1 40 = true then
      Option.bind (dn_X12_put t_s (t_newDid (v1).toNatClampNeg) (t_newTurn (v1).toNatClampNeg)) fun q15 =>
      some (.inl (.inr ((v1 + 1, t_thrown, t_size, t_length, t_p, t_limit, t_fault, q11.1, t_coming, t_at, t_span, t_token, t_word, t_number, q15, t_newDid, t_faultAt, t_newTurn, q11.2.1, q11.2.2))))
      else none
      else none
    else
      some (.inr (v1, t_thrown, t_size, t_length, t_p, t_limit, t_fault, q11.1, t_coming, t_at, t_span, t_token, t_word, t_number, t_s, t_newDid, t_faultAt, t_newTurn, q11.2.1, q11.2.2))
    else none
    else none
noncomputable def st_X12_book (t_names : Nat → Int64) (t_reserved : Nat → Int64) (t_tape : Nat → Int32) : ((Int32 × Int32 × Int32 × Int32 × Int32 × Int32 × Int32 × Int32 × Int32 × Int32 × Int32 × Int64 × Int32 × (Nat → Int32) × (Nat → Int32) × Int32 × (Nat → Int32) × (Nat → Int32) × (Nat → Int32)) ⊕ ((Int32 × Int32 × Int32 × Int32 × Int32 × Int32 × Int32 × Int32 × Int32 × Int32 × Int32 × Int32 × Int64 × Int32 × (Nat → Int32) × (Nat → Int32) × Int32 × (Nat → Int32) × (Nat → Int32) × (Nat → Int32)))) → Option (((Int32 × Int32 × Int32 × Int32 × Int32 × Int32 × Int32 × Int32 × Int32 × Int32 × Int32 × Int64 × Int32 × (Nat → Int32) × (Nat → Int32) × Int32 × (Nat → Int32) × (Nat → Int32) × (Nat → Int32)) ⊕ ((Int32 × Int32 × Int32 × Int32 × Int32 × Int32 × Int32 × Int32 × Int32 × Int32 × Int32 × Int32 × Int64 × Int32 × (Nat → Int32) × (Nat → Int32) × Int32 × (Nat → Int32) × (Nat → Int32) × (Nat → Int32)))) ⊕ (Int32 × Int32 × Int32 × Int32 × Int32 × Int32 × Int32 × Int32 × Int32 × Int32 × Int32 × Int32 × Int64 × Int32 × (Nat → Int32) × (Nat → Int32) × Int32 × (Nat → Int32) × (Nat → Int32) × (Nat → Int32))) := fun s => match s with
  | .inl (t_thrown, t_size, t_length, t_p, t_limit, t_fault, t_why, t_coming, t_at, t_span, t_token, t_word, t_number, t_s, t_newDid, t_faultAt, t_newTurn, t_boundAs, t_boundFrom) => bd_X12_book_0 t_names t_reserved t_tape t_thrown t_size t_length t_p t_limit t_fault t_why t_coming t_at t_span t_token t_word t_number t_s t_newDid t_faultAt t_newTurn t_boundAs t_boundFrom
  | .inr ((v1, t_thrown, t_size, t_length, t_p, t_limit, t_fault, t_why, t_coming, t_at, t_span, t_token, t_word, t_number, t_s, t_newDid, t_faultAt, t_newTurn, t_boundAs, t_boundFrom)) => bd_X12_book_1 t_names t_reserved t_tape v1 t_thrown t_size t_length t_p t_limit t_fault t_why t_coming t_at t_span t_token t_word t_number t_s t_newDid t_faultAt t_newTurn t_boundAs t_boundFrom
noncomputable def gn_X12_book_0 (t_names : Nat → Int64) (t_reserved : Nat → Int64) (t_tape : Nat → Int32) (t_thrown : Int32) (t_size : Int32) (t_length : Int32) (t_p : Int32) (t_limit : Int32) (t_fault : Int32) (t_why : Int32) (t_coming : Int32) (t_at : Int32) (t_span : Int32) (t_token : Int32) (t_word : Int64) (t_number : Int32) (t_s : Nat → Int32) (t_newDid : Nat → Int32) (t_faultAt : Int32) (t_newTurn : Nat → Int32) (t_boundAs : Nat → Int32) (t_boundFrom : Nat → Int32) : Option (Int32 × Int32 × Int32 × Int32 × Int32 × Int32 × Int32 × Int32 × Int32 × Int32 × Int32 × Int32 × Int64 × Int32 × (Nat → Int32) × (Nat → Int32) × Int32 × (Nat → Int32) × (Nat → Int32) × (Nat → Int32)) := lpC (st_X12_book t_names t_reserved t_tape) (.inl (t_thrown, t_size, t_length, t_p, t_limit, t_fault, t_why, t_coming, t_at, t_span, t_token, t_word, t_number, t_s, t_newDid, t_faultAt, t_newTurn, t_boundAs, t_boundFrom))
noncomputable def gn_X12_book_1 (t_names : Nat → Int64) (t_reserved : Nat → Int64) (t_tape : Nat → Int32) (v1 : Int32) (t_thrown : Int32) (t_size : Int32) (t_length : Int32) (t_p : Int32) (t_limit : Int32) (t_fault : Int32) (t_why : Int32) (t_coming : Int32) (t_at : Int32) (t_span : Int32) (t_token : Int32) (t_word : Int64) (t_number : Int32) (t_s : Nat → Int32) (t_newDid : Nat → Int32) (t_faultAt : Int32) (t_newTurn : Nat → Int32) (t_boundAs : Nat → Int32) (t_boundFrom : Nat → Int32) : Option (Int32 × Int32 × Int32 × Int32 × Int32 × Int32 × Int32 × Int32 × Int32 × Int32 × Int32 × Int32 × Int64 × Int32 × (Nat → Int32) × (Nat → Int32) × Int32 × (Nat → Int32) × (Nat → Int32) × (Nat → Int32)) := lpC (st_X12_book t_names t_reserved t_tape) (.inr ((v1, t_thrown, t_size, t_length, t_p, t_limit, t_fault, t_why, t_coming, t_at, t_span, t_token, t_word, t_number, t_s, t_newDid, t_faultAt, t_newTurn, t_boundAs, t_boundFrom)))
theorem gq_X12_book_0 (t_names : Nat → Int64) (t_reserved : Nat → Int64) (t_tape : Nat → Int32) (t_thrown : Int32) (t_size : Int32) (t_length : Int32) (t_p : Int32) (t_limit : Int32) (t_fault : Int32) (t_why : Int32) (t_coming : Int32) (t_at : Int32) (t_span : Int32) (t_token : Int32) (t_word : Int64) (t_number : Int32) (t_s : Nat → Int32) (t_newDid : Nat → Int32) (t_faultAt : Int32) (t_newTurn : Nat → Int32) (t_boundAs : Nat → Int32) (t_boundFrom : Nat → Int32) : gn_X12_book_0 t_names t_reserved t_tape t_thrown t_size t_length t_p t_limit t_fault t_why t_coming t_at t_span t_token t_word t_number t_s t_newDid t_faultAt t_newTurn t_boundAs t_boundFrom =
    if t_token = 0 then
      gn_X12_book_1 t_names t_reserved t_tape 0 t_thrown t_size t_length t_p t_limit t_fault t_why t_coming t_at t_span t_token t_word t_number (upd t_s (3 : Int32).toNatClampNeg 0) t_newDid t_faultAt t_newTurn t_boundAs t_boundFrom
    else
      Option.bind (dn_X12_readLine t_size t_p t_limit t_token t_at t_span t_number t_fault t_faultAt t_word t_coming t_names t_newDid t_newTurn t_reserved t_s t_tape) fun q4 =>
      if q4.1 = true then
        Option.bind (dn_X12_sign t_size q4.2.1 t_limit q4.2.2.2.2.1 q4.2.2.1 q4.2.2.2.1 q4.2.2.2.2.2.2.1 q4.2.2.2.2.2.2.2.2.1 q4.2.2.2.2.2.2.2.2.2.1 q4.2.2.2.2.2.1 t_tape 59) fun q6 =>
        if q6.1 = true then
          gn_X12_book_0 t_names t_reserved t_tape t_thrown t_size t_length q6.2.1 t_limit q6.2.2.2.2.2.2.2.1 t_why (t_coming + 1) q6.2.2.1 q6.2.2.2.1 q6.2.2.2.2.1 q6.2.2.2.2.2.1 q6.2.2.2.2.2.2.1 t_s q4.2.2.2.2.2.2.2.1 q6.2.2.2.2.2.2.2.2 q4.2.2.2.2.2.2.2.2.2.2 t_boundAs t_boundFrom
        else
          some (((-2) : Int32) - q6.2.2.2.2.2.2.2.2, t_thrown, t_size, t_length, q6.2.1, t_limit, q6.2.2.2.2.2.2.2.1, t_why, t_coming, q6.2.2.1, q6.2.2.2.1, q6.2.2.2.2.1, q6.2.2.2.2.2.1, q6.2.2.2.2.2.2.1, t_s, q4.2.2.2.2.2.2.2.1, q6.2.2.2.2.2.2.2.2, q4.2.2.2.2.2.2.2.2.2.2, t_boundAs, t_boundFrom)
      else
        some (((-2) : Int32) - q4.2.2.2.2.2.2.2.2.2.1, t_thrown, t_size, t_length, q4.2.1, t_limit, q4.2.2.2.2.2.2.2.2.1, t_why, t_coming, q4.2.2.1, q4.2.2.2.1, q4.2.2.2.2.1, q4.2.2.2.2.2.1, q4.2.2.2.2.2.2.1, t_s, q4.2.2.2.2.2.2.2.1, q4.2.2.2.2.2.2.2.2.2.1, q4.2.2.2.2.2.2.2.2.2.2, t_boundAs, t_boundFrom) := by
  rw [gn_X12_book_0, lpC_eq]
  show lpO _ (bd_X12_book_0 t_names t_reserved t_tape t_thrown t_size t_length t_p t_limit t_fault t_why t_coming t_at t_span t_token t_word t_number t_s t_newDid t_faultAt t_newTurn t_boundAs t_boundFrom) = _
  unfold bd_X12_book_0
  simp only [lpO_ite, lpO_bind, lpO_none, lpO_l, lpO_r]
  try rfl
theorem gq_X12_book_1 (t_names : Nat → Int64) (t_reserved : Nat → Int64) (t_tape : Nat → Int32) (v1 : Int32) (t_thrown : Int32) (t_size : Int32) (t_length : Int32) (t_p : Int32) (t_limit : Int32) (t_fault : Int32) (t_why : Int32) (t_coming : Int32) (t_at : Int32) (t_span : Int32) (t_token : Int32) (t_word : Int64) (t_number : Int32) (t_s : Nat → Int32) (t_newDid : Nat → Int32) (t_faultAt : Int32) (t_newTurn : Nat → Int32) (t_boundAs : Nat → Int32) (t_boundFrom : Nat → Int32) : gn_X12_book_1 t_names t_reserved t_tape v1 t_thrown t_size t_length t_p t_limit t_fault t_why t_coming t_at t_span t_token t_word t_number t_s t_newDid t_faultAt t_newTurn t_boundAs t_boundFrom =
    if t_coming ≤ v1 then
      some ((-1), t_thrown, t_size, t_length, t_p, t_limit, t_fault, t_why, t_coming, t_at, t_span, t_token, t_word, t_number, t_s, t_newDid, t_faultAt, t_newTurn, t_boundAs, t_boundFrom)
    else
      if inb v1 40 = true then
      if inb v1 40 = true then
      Option.bind (dn_X12_wrong t_boundAs t_boundFrom t_s (t_newDid (v1).toNatClampNeg) (t_newTurn (v1).toNatClampNeg)) fun q11 =>
      if q11.1 ≤ 0 then
        if inb v1 40 = true then
        if inb v1 40 = true then
        Option.bind (dn_X12_put t_s (t_newDid (v1).toNatClampNeg) (t_newTurn (v1).toNatClampNeg)) fun q15 =>
        gn_X12_book_1 t_names t_reserved t_tape (v1 + 1) t_thrown t_size t_length t_p t_limit t_fault q11.1 t_coming t_at t_span t_token t_word t_number q15 t_newDid t_faultAt t_newTurn q11.2.1 q11.2.2
        else none
        else none
      else
        some (v1, t_thrown, t_size, t_length, t_p, t_limit, t_fault, q11.1, t_coming, t_at, t_span, t_token, t_word, t_number, t_s, t_newDid, t_faultAt, t_newTurn, q11.2.1, q11.2.2)
      else none
      else none := by
  rw [gn_X12_book_1, lpC_eq]
  show lpO _ (bd_X12_book_1 t_names t_reserved t_tape v1 t_thrown t_size t_length t_p t_limit t_fault t_why t_coming t_at t_span t_token t_word t_number t_s t_newDid t_faultAt t_newTurn t_boundAs t_boundFrom) = _
  unfold bd_X12_book_1
  simp only [lpO_ite, lpO_bind, lpO_none, lpO_l, lpO_r]
  try rfl
noncomputable def dn_X12_book (t_length : Int32) (t_token : Int32) (t_at : Int32) (t_span : Int32) (t_number : Int32) (t_faultAt : Int32) (t_word : Int64) (t_boundAs : Nat → Int32) (t_boundFrom : Nat → Int32) (t_names : Nat → Int64) (t_newDid : Nat → Int32) (t_newTurn : Nat → Int32) (t_reserved : Nat → Int64) (t_s : Nat → Int32) (t_tape : Nat → Int32) : Option (Int32 × Int32 × Int32 × Int32 × Int32 × Int32 × Int32 × Int32 × Int32 × Int32 × Int32 × Int32 × Int64 × Int32 × (Nat → Int32) × (Nat → Int32) × Int32 × (Nat → Int32) × (Nat → Int32) × (Nat → Int32)) :=
  Option.bind (dn_X12_taken t_length 600) fun q1 =>
  Option.bind (dn_X12_skip q1.1 q1.2.2.1 q1.2.2.2 t_token t_at t_span t_number t_word t_tape) fun q2 =>
  gn_X12_book_0 t_names t_reserved t_tape 0 q1.1 q1.2.1 q2.1 q1.2.2.2 0 0 0 q2.2.1 q2.2.2.1 q2.2.2.2.1 q2.2.2.2.2.1 q2.2.2.2.2.2 t_s t_newDid t_faultAt t_newTurn t_boundAs t_boundFrom
noncomputable def dn_X12_why (t_why : Int32) : Option (Int32 × Int32) :=
  some (t_why, 0)
noncomputable def dn_X12_is (t_boundAs : Nat → Int32) (t_boundFrom : Nat → Int32) (t_s : Nat → Int32) (p1 : Int32) (p2 : Int32) : Option (Int32 × Int32 × (Nat → Int32) × (Nat → Int32)) :=
  Option.bind (dn_X12_isPerson t_s p1) fun q1 =>
  if q1 = true then
    Option.bind (dn_X12_isIn p2 0 59) fun q3 =>
    if q3 = true then
      Option.bind (dn_X12_bind t_boundAs t_boundFrom t_s p2) fun q5 =>
      Option.bind (dn_X12_now q5.1 q5.2 t_s p1 p2) fun q6 =>
      some (q6, 0, q5.1, q5.2)
    else
      some ((-1), 0, t_boundAs, t_boundFrom)
  else
    some ((-1), 0, t_boundAs, t_boundFrom)
noncomputable def bd_X12_may_0 (t_s : Nat → Int32) (p1 : Int32) (v2 : Int32) (v3 : Int32) (t_thrown : Int32) (t_boundAs : Nat → Int32) (t_boundFrom : Nat → Int32) : Option (((Int32 × Int32 × Int32 × (Nat → Int32) × (Nat → Int32))) ⊕ (Int32 × Int32 × (Nat → Int32) × (Nat → Int32))) :=
  if (t_s (1 : Int32).toNatClampNeg) ≤ v3 then
    some (.inr (v2, t_thrown, t_boundAs, t_boundFrom))
  else
    Option.bind (dn_X12_wrong t_boundAs t_boundFrom t_s v3 p1) fun q4 =>
    if q4.1 = 0 then
      some (.inl (v2 ||| ((1 : Int32) <<< (v3 &&& 31)), v3 + 1, t_thrown, q4.2.1, q4.2.2))
    else
      some (.inl (v2 ||| 0, v3 + 1, t_thrown, q4.2.1, q4.2.2))
noncomputable def st_X12_may (t_s : Nat → Int32) (p1 : Int32) : ((Int32 × Int32 × Int32 × (Nat → Int32) × (Nat → Int32))) → Option (((Int32 × Int32 × Int32 × (Nat → Int32) × (Nat → Int32))) ⊕ (Int32 × Int32 × (Nat → Int32) × (Nat → Int32))) := fun s => match s with
  | (v2, v3, t_thrown, t_boundAs, t_boundFrom) => bd_X12_may_0 t_s p1 v2 v3 t_thrown t_boundAs t_boundFrom
noncomputable def gn_X12_may_0 (t_s : Nat → Int32) (p1 : Int32) (v2 : Int32) (v3 : Int32) (t_thrown : Int32) (t_boundAs : Nat → Int32) (t_boundFrom : Nat → Int32) : Option (Int32 × Int32 × (Nat → Int32) × (Nat → Int32)) := lpC (st_X12_may t_s p1) ((v2, v3, t_thrown, t_boundAs, t_boundFrom))
theorem gq_X12_may_0 (t_s : Nat → Int32) (p1 : Int32) (v2 : Int32) (v3 : Int32) (t_thrown : Int32) (t_boundAs : Nat → Int32) (t_boundFrom : Nat → Int32) : gn_X12_may_0 t_s p1 v2 v3 t_thrown t_boundAs t_boundFrom =
    if (t_s (1 : Int32).toNatClampNeg) ≤ v3 then
      some (v2, t_thrown, t_boundAs, t_boundFrom)
    else
      Option.bind (dn_X12_wrong t_boundAs t_boundFrom t_s v3 p1) fun q4 =>
      if q4.1 = 0 then
        gn_X12_may_0 t_s p1 (v2 ||| ((1 : Int32) <<< (v3 &&& 31))) (v3 + 1) t_thrown q4.2.1 q4.2.2
      else
        gn_X12_may_0 t_s p1 (v2 ||| 0) (v3 + 1) t_thrown q4.2.1 q4.2.2 := by
  rw [gn_X12_may_0, lpC_eq]
  show lpO _ (bd_X12_may_0 t_s p1 v2 v3 t_thrown t_boundAs t_boundFrom) = _
  unfold bd_X12_may_0
  simp only [lpO_ite, lpO_bind, lpO_none, lpO_l, lpO_r]
  try rfl
noncomputable def dn_X12_may (t_boundAs : Nat → Int32) (t_boundFrom : Nat → Int32) (t_s : Nat → Int32) (p1 : Int32) : Option (Int32 × Int32 × (Nat → Int32) × (Nat → Int32)) :=
  Option.bind (dn_X12_isIn p1 0 1) fun q1 =>
  if q1 = true then
    gn_X12_may_0 t_s p1 0 0 0 t_boundAs t_boundFrom
  else
    some ((-1), 0, t_boundAs, t_boundFrom)
noncomputable def dn_X12_gainOf (t_s : Nat → Int32) (p1 : Int32) (p2 : Int32) : Option (Int32) :=
  Option.bind (dn_X12_of t_s p1 0) fun q1 =>
  if q1 = p2 then
    Option.bind (dn_X12_of t_s p1 3) fun q6 =>
    some q6
  else
    Option.bind (dn_X12_of t_s p1 1) fun q3 =>
    if q3 = p2 then
      Option.bind (dn_X12_of t_s p1 4) fun q5 =>
      some q5
    else
      some 0
noncomputable def bd_X12_had_0 (t_s : Nat → Int32) (p1 : Int32) (v2 : Int32) (v3 : Int32) (t_thrown : Int32) : Option (((Int32 × Int32 × Int32)) ⊕ (Int32 × Int32)) :=
  if (t_s (3 : Int32).toNatClampNeg) ≤ v3 then
    some (.inr (v2, t_thrown))
  else
    if inb ((224 : Int32) + v3) 284 = true then
    Option.bind (dn_X12_gainOf t_s (t_s (((224 : Int32) + v3)).toNatClampNeg) p1) fun q5 =>
    some (.inl (v2 + q5, v3 + 1, t_thrown))
    else none
noncomputable def st_X12_had (t_s : Nat → Int32) (p1 : Int32) : ((Int32 × Int32 × Int32)) → Option (((Int32 × Int32 × Int32)) ⊕ (Int32 × Int32)) := fun s => match s with
  | (v2, v3, t_thrown) => bd_X12_had_0 t_s p1 v2 v3 t_thrown
noncomputable def gn_X12_had_0 (t_s : Nat → Int32) (p1 : Int32) (v2 : Int32) (v3 : Int32) (t_thrown : Int32) : Option (Int32 × Int32) := lpC (st_X12_had t_s p1) ((v2, v3, t_thrown))
theorem gq_X12_had_0 (t_s : Nat → Int32) (p1 : Int32) (v2 : Int32) (v3 : Int32) (t_thrown : Int32) : gn_X12_had_0 t_s p1 v2 v3 t_thrown =
    if (t_s (3 : Int32).toNatClampNeg) ≤ v3 then
      some (v2, t_thrown)
    else
      if inb ((224 : Int32) + v3) 284 = true then
      Option.bind (dn_X12_gainOf t_s (t_s (((224 : Int32) + v3)).toNatClampNeg) p1) fun q5 =>
      gn_X12_had_0 t_s p1 (v2 + q5) (v3 + 1) t_thrown
      else none := by
  rw [gn_X12_had_0, lpC_eq]
  show lpO _ (bd_X12_had_0 t_s p1 v2 v3 t_thrown) = _
  unfold bd_X12_had_0
  simp only [lpO_ite, lpO_bind, lpO_none, lpO_l, lpO_r]
  try rfl
noncomputable def dn_X12_had (t_s : Nat → Int32) (p1 : Int32) : Option (Int32 × Int32) :=
  Option.bind (dn_X12_isPerson t_s p1) fun q1 =>
  if q1 = true then
    gn_X12_had_0 t_s p1 0 0 0
  else
    some ((-1), 0)
noncomputable def bd_X12_goesAs_0 (t_s : Nat → Int32) (p1 : Int32) (v3 : Int32) (v4 : Int32) : Option (((Int32 × Int32)) ⊕ (Int32)) :=
  if v4 = 0 then
    some (.inr 0)
  else
    if v3 = 0 then
      Option.bind (dn_X12_of t_s p1 5) fun q9 =>
      if q9 = 1 then
        some (.inr 2)
      else
        some (.inr 0)
    else
      some (.inr 0)
noncomputable def st_X12_goesAs (t_s : Nat → Int32) (p1 : Int32) : ((Int32 × Int32)) → Option (((Int32 × Int32)) ⊕ (Int32)) := fun s => match s with
  | (v3, v4) => bd_X12_goesAs_0 t_s p1 v3 v4
noncomputable def gn_X12_goesAs_0 (t_s : Nat → Int32) (p1 : Int32) (v3 : Int32) (v4 : Int32) : Option (Int32) := lpC (st_X12_goesAs t_s p1) ((v3, v4))
theorem gq_X12_goesAs_0 (t_s : Nat → Int32) (p1 : Int32) (v3 : Int32) (v4 : Int32) : gn_X12_goesAs_0 t_s p1 v3 v4 =
    if v4 = 0 then
      some 0
    else
      if v3 = 0 then
        Option.bind (dn_X12_of t_s p1 5) fun q9 =>
        if q9 = 1 then
          some 2
        else
          some 0
      else
        some 0 := by
  rw [gn_X12_goesAs_0, lpC_eq]
  show lpO _ (bd_X12_goesAs_0 t_s p1 v3 v4) = _
  unfold bd_X12_goesAs_0
  simp only [lpO_ite, lpO_bind, lpO_none, lpO_l, lpO_r]
  try rfl
noncomputable def dn_X12_goesAs (t_s : Nat → Int32) (p1 : Int32) (p2 : Int32) : Option (Int32) :=
  Option.bind (dn_X12_of t_s p1 0) fun q1 =>
  Option.bind (dn_X12_has p2 q1) fun q2 =>
  Option.bind (dn_X12_of t_s p1 1) fun q3 =>
  Option.bind (dn_X12_has p2 q3) fun q4 =>
  if q2 = true then
    if q4 = true then
      gn_X12_goesAs_0 t_s p1 (b2i q2) (b2i q4)
    else
      some 1
  else
    gn_X12_goesAs_0 t_s p1 (b2i q2) (b2i q4)
noncomputable def dn_X12_isRoom (t_cap : Nat → Int32) (t_used : Nat → Int32) (p1 : Int32) : Option (Bool) :=
  if inb p1 10 = true then
  if inb p1 10 = true then
  if (t_cap (p1).toNatClampNeg) ≤ (t_used (p1).toNatClampNeg) then
    some false
  else
    some true
  else none
  else none
noncomputable def bd_X12_bestRow_0 (t_items : Int32) (t_cap : Nat → Int32) (t_in : Nat → Int32) (t_side : Nat → Int32) (t_used : Nat → Int32) (t_worth : Nat → Int32) (v1 : Int32) (t_before : Nat → Int32) (t_far : Nat → Int32) (t_steps : Nat → Int32) : Option (((Int32 × (Nat → Int32) × (Nat → Int32) × (Nat → Int32)) ⊕ ((Int32 × (Nat → Int32) × (Nat → Int32) × (Nat → Int32)) ⊕ ((Int32 × Int32 × (Nat → Int32) × (Nat → Int32) × (Nat → Int32)) ⊕ ((Int32 × Int32 × (Nat → Int32) × (Nat → Int32) × (Nat → Int32)) ⊕ ((Int32 × Int32 × (Nat → Int32) × (Nat → Int32) × (Nat → Int32)) ⊕ ((Int32 × Int32 × Int32 × (Nat → Int32) × (Nat → Int32) × (Nat → Int32)) ⊕ ((Int32 × Int32 × Int32 × Int32 × Int32 × (Nat → Int32) × (Nat → Int32) × (Nat → Int32)) ⊕ ((Int32 × Int32 × Int32 × Int32 × Int32 × Int32 × (Nat → Int32) × (Nat → Int32) × (Nat → Int32)) ⊕ ((Int32 × Int32 × Int32 × Int32 × Int32 × (Nat → Int32) × (Nat → Int32) × (Nat → Int32)) ⊕ ((Int32 × Int32 × Int32 × (Nat → Int32) × (Nat → Int32) × (Nat → Int32)))))))))))) ⊕ (Int32 × (Nat → Int32) × (Nat → Int32) × (Nat → Int32))) :=
  if t_items ≤ v1 then
    some (.inl (.inr (.inl (1, t_before, t_far, t_steps))))
  else
    if inb v1 30 = true then
    if inb v1 30 = true then
    if (t_in (v1).toNatClampNeg) = 0 then
      if inb ((2 : Int32) * v1) 60 = true then
      Option.bind (dn_X12_isRoom t_cap t_used (t_side (((2 : Int32) * v1)).toNatClampNeg)) fun q6 =>
      if q6 = true then
        if inb v1 30 = true then
        if inb v1 30 = true then
        if inb v1 30 = true then
        some (.inl (.inl (v1 + 1, upd t_before (v1).toNatClampNeg (-1), upd t_far (v1).toNatClampNeg (-(t_worth (v1).toNatClampNeg)), upd t_steps (v1).toNatClampNeg 0)))
        else none
        else none
        else none
      else
        some (.inl (.inr (.inr (.inl (v1, v1, upd t_before (v1).toNatClampNeg (-1), t_far, t_steps)))))
      else none
    else
      some (.inl (.inr (.inr (.inl (v1, v1, upd t_before (v1).toNatClampNeg (-1), t_far, t_steps)))))
    else none
    else none
noncomputable def bd_X12_bestRow_1 (t_items : Int32) (t_cap : Nat → Int32) (t_in : Nat → Int32) (t_side : Nat → Int32) (t_used : Nat → Int32) (t_worth : Nat → Int32) (v1 : Int32) (t_before : Nat → Int32) (t_far : Nat → Int32) (t_steps : Nat → Int32) : Option (((Int32 × (Nat → Int32) × (Nat → Int32) × (Nat → Int32)) ⊕ ((Int32 × (Nat → Int32) × (Nat → Int32) × (Nat → Int32)) ⊕ ((Int32 × Int32 × (Nat → Int32) × (Nat → Int32) × (Nat → Int32)) ⊕ ((Int32 × Int32 × (Nat → Int32) × (Nat → Int32) × (Nat → Int32)) ⊕ ((Int32 × Int32 × (Nat → Int32) × (Nat → Int32) × (Nat → Int32)) ⊕ ((Int32 × Int32 × Int32 × (Nat → Int32) × (Nat → Int32) × (Nat → Int32)) ⊕ ((Int32 × Int32 × Int32 × Int32 × Int32 × (Nat → Int32) × (Nat → Int32) × (Nat → Int32)) ⊕ ((Int32 × Int32 × Int32 × Int32 × Int32 × Int32 × (Nat → Int32) × (Nat → Int32) × (Nat → Int32)) ⊕ ((Int32 × Int32 × Int32 × Int32 × Int32 × (Nat → Int32) × (Nat → Int32) × (Nat → Int32)) ⊕ ((Int32 × Int32 × Int32 × (Nat → Int32) × (Nat → Int32) × (Nat → Int32)))))))))))) ⊕ (Int32 × (Nat → Int32) × (Nat → Int32) × (Nat → Int32))) :=
  if v1 = 0 then
    some (.inl (.inr (.inr (.inr (.inl ((-1), 0, t_before, t_far, t_steps))))))
  else
    some (.inl (.inr (.inr (.inr (.inr (.inl (0, 0, t_before, t_far, t_steps)))))))
noncomputable def bd_X12_bestRow_2 (t_items : Int32) (t_cap : Nat → Int32) (t_in : Nat → Int32) (t_side : Nat → Int32) (t_used : Nat → Int32) (t_worth : Nat → Int32) (v1 : Int32) (k1 : Int32) (t_before : Nat → Int32) (t_far : Nat → Int32) (t_steps : Nat → Int32) : Option (((Int32 × (Nat → Int32) × (Nat → Int32) × (Nat → Int32)) ⊕ ((Int32 × (Nat → Int32) × (Nat → Int32) × (Nat → Int32)) ⊕ ((Int32 × Int32 × (Nat → Int32) × (Nat → Int32) × (Nat → Int32)) ⊕ ((Int32 × Int32 × (Nat → Int32) × (Nat → Int32) × (Nat → Int32)) ⊕ ((Int32 × Int32 × (Nat → Int32) × (Nat → Int32) × (Nat → Int32)) ⊕ ((Int32 × Int32 × Int32 × (Nat → Int32) × (Nat → Int32) × (Nat → Int32)) ⊕ ((Int32 × Int32 × Int32 × Int32 × Int32 × (Nat → Int32) × (Nat → Int32) × (Nat → Int32)) ⊕ ((Int32 × Int32 × Int32 × Int32 × Int32 × Int32 × (Nat → Int32) × (Nat → Int32) × (Nat → Int32)) ⊕ ((Int32 × Int32 × Int32 × Int32 × Int32 × (Nat → Int32) × (Nat → Int32) × (Nat → Int32)) ⊕ ((Int32 × Int32 × Int32 × (Nat → Int32) × (Nat → Int32) × (Nat → Int32)))))))))))) ⊕ (Int32 × (Nat → Int32) × (Nat → Int32) × (Nat → Int32))) :=
  if inb k1 30 = true then
  if inb v1 30 = true then
  some (.inl (.inl (v1 + 1, t_before, upd t_far (k1).toNatClampNeg 1000000000, upd t_steps (v1).toNatClampNeg 0)))
  else none
  else none
noncomputable def bd_X12_bestRow_3 (t_items : Int32) (t_cap : Nat → Int32) (t_in : Nat → Int32) (t_side : Nat → Int32) (t_used : Nat → Int32) (t_worth : Nat → Int32) (v2 : Int32) (v3 : Int32) (t_before : Nat → Int32) (t_far : Nat → Int32) (t_steps : Nat → Int32) : Option (((Int32 × (Nat → Int32) × (Nat → Int32) × (Nat → Int32)) ⊕ ((Int32 × (Nat → Int32) × (Nat → Int32) × (Nat → Int32)) ⊕ ((Int32 × Int32 × (Nat → Int32) × (Nat → Int32) × (Nat → Int32)) ⊕ ((Int32 × Int32 × (Nat → Int32) × (Nat → Int32) × (Nat → Int32)) ⊕ ((Int32 × Int32 × (Nat → Int32) × (Nat → Int32) × (Nat → Int32)) ⊕ ((Int32 × Int32 × Int32 × (Nat → Int32) × (Nat → Int32) × (Nat → Int32)) ⊕ ((Int32 × Int32 × Int32 × Int32 × Int32 × (Nat → Int32) × (Nat → Int32) × (Nat → Int32)) ⊕ ((Int32 × Int32 × Int32 × Int32 × Int32 × Int32 × (Nat → Int32) × (Nat → Int32) × (Nat → Int32)) ⊕ ((Int32 × Int32 × Int32 × Int32 × Int32 × (Nat → Int32) × (Nat → Int32) × (Nat → Int32)) ⊕ ((Int32 × Int32 × Int32 × (Nat → Int32) × (Nat → Int32) × (Nat → Int32)))))))))))) ⊕ (Int32 × (Nat → Int32) × (Nat → Int32) × (Nat → Int32))) :=
  if t_items ≤ v3 then
    some (.inr (v2, t_before, t_far, t_steps))
  else
    if inb v3 30 = true then
    if (t_in (v3).toNatClampNeg) = 0 then
      if inb v3 30 = true then
      if (t_far (v3).toNatClampNeg) = 1000000000 then
        some (.inl (.inr (.inr (.inr (.inl (v2, v3 + 1, t_before, t_far, t_steps))))))
      else
        if inb (((2 : Int32) * v3) + 1) 60 = true then
        Option.bind (dn_X12_isRoom t_cap t_used (t_side ((((2 : Int32) * v3) + 1)).toNatClampNeg)) fun q20 =>
        if q20 = true then
          if v2 < 0 then
            some (.inl (.inr (.inr (.inr (.inl (v3, v3 + 1, t_before, t_far, t_steps))))))
          else
            if inb v3 30 = true then
            if inb v2 30 = true then
            if (t_far (v3).toNatClampNeg) < (t_far (v2).toNatClampNeg) then
              some (.inl (.inr (.inr (.inr (.inl (v3, v3 + 1, t_before, t_far, t_steps))))))
            else
              if inb v3 30 = true then
              if inb v2 30 = true then
              if (t_far (v3).toNatClampNeg) = (t_far (v2).toNatClampNeg) then
                if inb v3 30 = true then
                if inb v2 30 = true then
                if (t_steps (v2).toNatClampNeg) ≤ (t_steps (v3).toNatClampNeg) then
                  some (.inl (.inr (.inr (.inr (.inl (v2, v3 + 1, t_before, t_far, t_steps))))))
                else
                  some (.inl (.inr (.inr (.inr (.inl (v3, v3 + 1, t_before, t_far, t_steps))))))
                else none
                else none
              else
                some (.inl (.inr (.inr (.inr (.inl (v2, v3 + 1, t_before, t_far, t_steps))))))
              else none
              else none
            else none
            else none
        else
          some (.inl (.inr (.inr (.inr (.inl (v2, v3 + 1, t_before, t_far, t_steps))))))
        else none
      else none
    else
      some (.inl (.inr (.inr (.inr (.inl (v2, v3 + 1, t_before, t_far, t_steps))))))
    else none
noncomputable def bd_X12_bestRow_4 (t_items : Int32) (t_cap : Nat → Int32) (t_in : Nat → Int32) (t_side : Nat → Int32) (t_used : Nat → Int32) (t_worth : Nat → Int32) (v1 : Int32) (v2 : Int32) (t_before : Nat → Int32) (t_far : Nat → Int32) (t_steps : Nat → Int32) : Option (((Int32 × (Nat → Int32) × (Nat → Int32) × (Nat → Int32)) ⊕ ((Int32 × (Nat → Int32) × (Nat → Int32) × (Nat → Int32)) ⊕ ((Int32 × Int32 × (Nat → Int32) × (Nat → Int32) × (Nat → Int32)) ⊕ ((Int32 × Int32 × (Nat → Int32) × (Nat → Int32) × (Nat → Int32)) ⊕ ((Int32 × Int32 × (Nat → Int32) × (Nat → Int32) × (Nat → Int32)) ⊕ ((Int32 × Int32 × Int32 × (Nat → Int32) × (Nat → Int32) × (Nat → Int32)) ⊕ ((Int32 × Int32 × Int32 × Int32 × Int32 × (Nat → Int32) × (Nat → Int32) × (Nat → Int32)) ⊕ ((Int32 × Int32 × Int32 × Int32 × Int32 × Int32 × (Nat → Int32) × (Nat → Int32) × (Nat → Int32)) ⊕ ((Int32 × Int32 × Int32 × Int32 × Int32 × (Nat → Int32) × (Nat → Int32) × (Nat → Int32)) ⊕ ((Int32 × Int32 × Int32 × (Nat → Int32) × (Nat → Int32) × (Nat → Int32)))))))))))) ⊕ (Int32 × (Nat → Int32) × (Nat → Int32) × (Nat → Int32))) :=
  if t_items ≤ v2 then
    some (.inl (.inr (.inl (v1, t_before, t_far, t_steps))))
  else
    if inb v2 30 = true then
    if (t_far (v2).toNatClampNeg) = 1000000000 then
      some (.inl (.inr (.inr (.inr (.inr (.inl (v1, v2 + 1, t_before, t_far, t_steps)))))))
    else
      some (.inl (.inr (.inr (.inr (.inr (.inr (.inl (v1, v2, 0, t_before, t_far, t_steps))))))))
    else none
noncomputable def bd_X12_bestRow_5 (t_items : Int32) (t_cap : Nat → Int32) (t_in : Nat → Int32) (t_side : Nat → Int32) (t_used : Nat → Int32) (t_worth : Nat → Int32) (v1 : Int32) (v2 : Int32) (v3 : Int32) (t_before : Nat → Int32) (t_far : Nat → Int32) (t_steps : Nat → Int32) : Option (((Int32 × (Nat → Int32) × (Nat → Int32) × (Nat → Int32)) ⊕ ((Int32 × (Nat → Int32) × (Nat → Int32) × (Nat → Int32)) ⊕ ((Int32 × Int32 × (Nat → Int32) × (Nat → Int32) × (Nat → Int32)) ⊕ ((Int32 × Int32 × (Nat → Int32) × (Nat → Int32) × (Nat → Int32)) ⊕ ((Int32 × Int32 × (Nat → Int32) × (Nat → Int32) × (Nat → Int32)) ⊕ ((Int32 × Int32 × Int32 × (Nat → Int32) × (Nat → Int32) × (Nat → Int32)) ⊕ ((Int32 × Int32 × Int32 × Int32 × Int32 × (Nat → Int32) × (Nat → Int32) × (Nat → Int32)) ⊕ ((Int32 × Int32 × Int32 × Int32 × Int32 × Int32 × (Nat → Int32) × (Nat → Int32) × (Nat → Int32)) ⊕ ((Int32 × Int32 × Int32 × Int32 × Int32 × (Nat → Int32) × (Nat → Int32) × (Nat → Int32)) ⊕ ((Int32 × Int32 × Int32 × (Nat → Int32) × (Nat → Int32) × (Nat → Int32)))))))))))) ⊕ (Int32 × (Nat → Int32) × (Nat → Int32) × (Nat → Int32))) :=
  if t_items ≤ v3 then
    some (.inl (.inr (.inr (.inr (.inr (.inl (v1, v2 + 1, t_before, t_far, t_steps)))))))
  else
    if inb v2 30 = true then
    if inb v3 30 = true then
    if (t_in (v2).toNatClampNeg) = (t_in (v3).toNatClampNeg) then
      some (.inl (.inr (.inr (.inr (.inr (.inr (.inl (v1, v2, v3 + 1, t_before, t_far, t_steps))))))))
    else
      if inb v2 30 = true then
      if (t_in (v2).toNatClampNeg) = 0 then
        some (.inl (.inr (.inr (.inr (.inr (.inr (.inr (.inl (v1, v2, v3, (2 : Int32) * v2, 1, t_before, t_far, t_steps)))))))))
      else
        some (.inl (.inr (.inr (.inr (.inr (.inr (.inr (.inl (v1, v2, v3, (2 : Int32) * v2, 0, t_before, t_far, t_steps)))))))))
      else none
    else none
    else none
noncomputable def bd_X12_bestRow_6 (t_items : Int32) (t_cap : Nat → Int32) (t_in : Nat → Int32) (t_side : Nat → Int32) (t_used : Nat → Int32) (t_worth : Nat → Int32) (v1 : Int32) (v2 : Int32) (v3 : Int32) (k1 : Int32) (k2 : Int32) (t_before : Nat → Int32) (t_far : Nat → Int32) (t_steps : Nat → Int32) : Option (((Int32 × (Nat → Int32) × (Nat → Int32) × (Nat → Int32)) ⊕ ((Int32 × (Nat → Int32) × (Nat → Int32) × (Nat → Int32)) ⊕ ((Int32 × Int32 × (Nat → Int32) × (Nat → Int32) × (Nat → Int32)) ⊕ ((Int32 × Int32 × (Nat → Int32) × (Nat → Int32) × (Nat → Int32)) ⊕ ((Int32 × Int32 × (Nat → Int32) × (Nat → Int32) × (Nat → Int32)) ⊕ ((Int32 × Int32 × Int32 × (Nat → Int32) × (Nat → Int32) × (Nat → Int32)) ⊕ ((Int32 × Int32 × Int32 × Int32 × Int32 × (Nat → Int32) × (Nat → Int32) × (Nat → Int32)) ⊕ ((Int32 × Int32 × Int32 × Int32 × Int32 × Int32 × (Nat → Int32) × (Nat → Int32) × (Nat → Int32)) ⊕ ((Int32 × Int32 × Int32 × Int32 × Int32 × (Nat → Int32) × (Nat → Int32) × (Nat → Int32)) ⊕ ((Int32 × Int32 × Int32 × (Nat → Int32) × (Nat → Int32) × (Nat → Int32)))))))))))) ⊕ (Int32 × (Nat → Int32) × (Nat → Int32) × (Nat → Int32))) :=
  if inb (k1 + k2) 60 = true then
  if inb v2 30 = true then
  if (t_in (v2).toNatClampNeg) = 0 then
    some (.inl (.inr (.inr (.inr (.inr (.inr (.inr (.inr (.inl (v1, v2, v3, t_side ((k1 + k2)).toNatClampNeg, (2 : Int32) * v3, 1, t_before, t_far, t_steps))))))))))
  else
    some (.inl (.inr (.inr (.inr (.inr (.inr (.inr (.inr (.inl (v1, v2, v3, t_side ((k1 + k2)).toNatClampNeg, (2 : Int32) * v3, 0, t_before, t_far, t_steps))))))))))
  else none
  else none
noncomputable def bd_X12_bestRow_7 (t_items : Int32) (t_cap : Nat → Int32) (t_in : Nat → Int32) (t_side : Nat → Int32) (t_used : Nat → Int32) (t_worth : Nat → Int32) (v1 : Int32) (v2 : Int32) (v3 : Int32) (k0 : Int32) (k2 : Int32) (k3 : Int32) (t_before : Nat → Int32) (t_far : Nat → Int32) (t_steps : Nat → Int32) : Option (((Int32 × (Nat → Int32) × (Nat → Int32) × (Nat → Int32)) ⊕ ((Int32 × (Nat → Int32) × (Nat → Int32) × (Nat → Int32)) ⊕ ((Int32 × Int32 × (Nat → Int32) × (Nat → Int32) × (Nat → Int32)) ⊕ ((Int32 × Int32 × (Nat → Int32) × (Nat → Int32) × (Nat → Int32)) ⊕ ((Int32 × Int32 × (Nat → Int32) × (Nat → Int32) × (Nat → Int32)) ⊕ ((Int32 × Int32 × Int32 × (Nat → Int32) × (Nat → Int32) × (Nat → Int32)) ⊕ ((Int32 × Int32 × Int32 × Int32 × Int32 × (Nat → Int32) × (Nat → Int32) × (Nat → Int32)) ⊕ ((Int32 × Int32 × Int32 × Int32 × Int32 × Int32 × (Nat → Int32) × (Nat → Int32) × (Nat → Int32)) ⊕ ((Int32 × Int32 × Int32 × Int32 × Int32 × (Nat → Int32) × (Nat → Int32) × (Nat → Int32)) ⊕ ((Int32 × Int32 × Int32 × (Nat → Int32) × (Nat → Int32) × (Nat → Int32)))))))))))) ⊕ (Int32 × (Nat → Int32) × (Nat → Int32) × (Nat → Int32))) :=
  if inb (k2 + k3) 60 = true then
  if k0 = (t_side ((k2 + k3)).toNatClampNeg) then
    if inb v2 30 = true then
    if inb v3 30 = true then
    if (t_in (v3).toNatClampNeg) = 0 then
      if inb v3 30 = true then
      some (.inl (.inr (.inr (.inr (.inr (.inr (.inr (.inr (.inr (.inl (v1, v2, v3, t_far (v2).toNatClampNeg, -(t_worth (v3).toNatClampNeg), t_before, t_far, t_steps)))))))))))
      else none
    else
      if inb v3 30 = true then
      some (.inl (.inr (.inr (.inr (.inr (.inr (.inr (.inr (.inr (.inl (v1, v2, v3, t_far (v2).toNatClampNeg, t_worth (v3).toNatClampNeg, t_before, t_far, t_steps)))))))))))
      else none
    else none
    else none
  else
    some (.inl (.inr (.inr (.inr (.inr (.inr (.inl (v1, v2, v3 + 1, t_before, t_far, t_steps))))))))
  else none
noncomputable def bd_X12_bestRow_8 (t_items : Int32) (t_cap : Nat → Int32) (t_in : Nat → Int32) (t_side : Nat → Int32) (t_used : Nat → Int32) (t_worth : Nat → Int32) (v1 : Int32) (v2 : Int32) (v3 : Int32) (k0 : Int32) (k1 : Int32) (t_before : Nat → Int32) (t_far : Nat → Int32) (t_steps : Nat → Int32) : Option (((Int32 × (Nat → Int32) × (Nat → Int32) × (Nat → Int32)) ⊕ ((Int32 × (Nat → Int32) × (Nat → Int32) × (Nat → Int32)) ⊕ ((Int32 × Int32 × (Nat → Int32) × (Nat → Int32) × (Nat → Int32)) ⊕ ((Int32 × Int32 × (Nat → Int32) × (Nat → Int32) × (Nat → Int32)) ⊕ ((Int32 × Int32 × (Nat → Int32) × (Nat → Int32) × (Nat → Int32)) ⊕ ((Int32 × Int32 × Int32 × (Nat → Int32) × (Nat → Int32) × (Nat → Int32)) ⊕ ((Int32 × Int32 × Int32 × Int32 × Int32 × (Nat → Int32) × (Nat → Int32) × (Nat → Int32)) ⊕ ((Int32 × Int32 × Int32 × Int32 × Int32 × Int32 × (Nat → Int32) × (Nat → Int32) × (Nat → Int32)) ⊕ ((Int32 × Int32 × Int32 × Int32 × Int32 × (Nat → Int32) × (Nat → Int32) × (Nat → Int32)) ⊕ ((Int32 × Int32 × Int32 × (Nat → Int32) × (Nat → Int32) × (Nat → Int32)))))))))))) ⊕ (Int32 × (Nat → Int32) × (Nat → Int32) × (Nat → Int32))) :=
  if inb v3 30 = true then
  if (t_far (v3).toNatClampNeg) < (k0 + k1) then
    some (.inl (.inr (.inr (.inr (.inr (.inr (.inl (v1, v2, v3 + 1, t_before, t_far, t_steps))))))))
  else
    if inb v3 30 = true then
    if (k0 + k1) = (t_far (v3).toNatClampNeg) then
      if inb v2 30 = true then
      if inb v3 30 = true then
      if ((t_steps (v2).toNatClampNeg) + 1) < (t_steps (v3).toNatClampNeg) then
        some (.inl (.inr (.inr (.inr (.inr (.inr (.inr (.inr (.inr (.inr ((v2, v3, k0 + k1, t_before, t_far, t_steps))))))))))))
      else
        some (.inl (.inr (.inr (.inr (.inr (.inr (.inl (v1, v2, v3 + 1, t_before, t_far, t_steps))))))))
      else none
      else none
    else
      some (.inl (.inr (.inr (.inr (.inr (.inr (.inr (.inr (.inr (.inr ((v2, v3, k0 + k1, t_before, t_far, t_steps))))))))))))
    else none
  else none
noncomputable def bd_X12_bestRow_9 (t_items : Int32) (t_cap : Nat → Int32) (t_in : Nat → Int32) (t_side : Nat → Int32) (t_used : Nat → Int32) (t_worth : Nat → Int32) (v2 : Int32) (v3 : Int32) (v4 : Int32) (t_before : Nat → Int32) (t_far : Nat → Int32) (t_steps : Nat → Int32) : Option (((Int32 × (Nat → Int32) × (Nat → Int32) × (Nat → Int32)) ⊕ ((Int32 × (Nat → Int32) × (Nat → Int32) × (Nat → Int32)) ⊕ ((Int32 × Int32 × (Nat → Int32) × (Nat → Int32) × (Nat → Int32)) ⊕ ((Int32 × Int32 × (Nat → Int32) × (Nat → Int32) × (Nat → Int32)) ⊕ ((Int32 × Int32 × (Nat → Int32) × (Nat → Int32) × (Nat → Int32)) ⊕ ((Int32 × Int32 × Int32 × (Nat → Int32) × (Nat → Int32) × (Nat → Int32)) ⊕ ((Int32 × Int32 × Int32 × Int32 × Int32 × (Nat → Int32) × (Nat → Int32) × (Nat → Int32)) ⊕ ((Int32 × Int32 × Int32 × Int32 × Int32 × Int32 × (Nat → Int32) × (Nat → Int32) × (Nat → Int32)) ⊕ ((Int32 × Int32 × Int32 × Int32 × Int32 × (Nat → Int32) × (Nat → Int32) × (Nat → Int32)) ⊕ ((Int32 × Int32 × Int32 × (Nat → Int32) × (Nat → Int32) × (Nat → Int32)))))))))))) ⊕ (Int32 × (Nat → Int32) × (Nat → Int32) × (Nat → Int32))) :=
  if inb v3 30 = true then
  if inb v2 30 = true then
  if inb v3 30 = true then
  if inb v3 30 = true then
  some (.inl (.inr (.inr (.inr (.inr (.inr (.inl (1, v2, v3 + 1, upd t_before (v3).toNatClampNeg v2, upd t_far (v3).toNatClampNeg v4, upd t_steps (v3).toNatClampNeg ((t_steps (v2).toNatClampNeg) + 1)))))))))
  else none
  else none
  else none
  else none
noncomputable def st_X12_bestRow (t_items : Int32) (t_cap : Nat → Int32) (t_in : Nat → Int32) (t_side : Nat → Int32) (t_used : Nat → Int32) (t_worth : Nat → Int32) : ((Int32 × (Nat → Int32) × (Nat → Int32) × (Nat → Int32)) ⊕ ((Int32 × (Nat → Int32) × (Nat → Int32) × (Nat → Int32)) ⊕ ((Int32 × Int32 × (Nat → Int32) × (Nat → Int32) × (Nat → Int32)) ⊕ ((Int32 × Int32 × (Nat → Int32) × (Nat → Int32) × (Nat → Int32)) ⊕ ((Int32 × Int32 × (Nat → Int32) × (Nat → Int32) × (Nat → Int32)) ⊕ ((Int32 × Int32 × Int32 × (Nat → Int32) × (Nat → Int32) × (Nat → Int32)) ⊕ ((Int32 × Int32 × Int32 × Int32 × Int32 × (Nat → Int32) × (Nat → Int32) × (Nat → Int32)) ⊕ ((Int32 × Int32 × Int32 × Int32 × Int32 × Int32 × (Nat → Int32) × (Nat → Int32) × (Nat → Int32)) ⊕ ((Int32 × Int32 × Int32 × Int32 × Int32 × (Nat → Int32) × (Nat → Int32) × (Nat → Int32)) ⊕ ((Int32 × Int32 × Int32 × (Nat → Int32) × (Nat → Int32) × (Nat → Int32)))))))))))) → Option (((Int32 × (Nat → Int32) × (Nat → Int32) × (Nat → Int32)) ⊕ ((Int32 × (Nat → Int32) × (Nat → Int32) × (Nat → Int32)) ⊕ ((Int32 × Int32 × (Nat → Int32) × (Nat → Int32) × (Nat → Int32)) ⊕ ((Int32 × Int32 × (Nat → Int32) × (Nat → Int32) × (Nat → Int32)) ⊕ ((Int32 × Int32 × (Nat → Int32) × (Nat → Int32) × (Nat → Int32)) ⊕ ((Int32 × Int32 × Int32 × (Nat → Int32) × (Nat → Int32) × (Nat → Int32)) ⊕ ((Int32 × Int32 × Int32 × Int32 × Int32 × (Nat → Int32) × (Nat → Int32) × (Nat → Int32)) ⊕ ((Int32 × Int32 × Int32 × Int32 × Int32 × Int32 × (Nat → Int32) × (Nat → Int32) × (Nat → Int32)) ⊕ ((Int32 × Int32 × Int32 × Int32 × Int32 × (Nat → Int32) × (Nat → Int32) × (Nat → Int32)) ⊕ ((Int32 × Int32 × Int32 × (Nat → Int32) × (Nat → Int32) × (Nat → Int32)))))))))))) ⊕ (Int32 × (Nat → Int32) × (Nat → Int32) × (Nat → Int32))) := fun s => match s with
  | .inl (v1, t_before, t_far, t_steps) => bd_X12_bestRow_0 t_items t_cap t_in t_side t_used t_worth v1 t_before t_far t_steps
  | .inr (.inl (v1, t_before, t_far, t_steps)) => bd_X12_bestRow_1 t_items t_cap t_in t_side t_used t_worth v1 t_before t_far t_steps
  | .inr (.inr (.inl (v1, k1, t_before, t_far, t_steps))) => bd_X12_bestRow_2 t_items t_cap t_in t_side t_used t_worth v1 k1 t_before t_far t_steps
  | .inr (.inr (.inr (.inl (v2, v3, t_before, t_far, t_steps)))) => bd_X12_bestRow_3 t_items t_cap t_in t_side t_used t_worth v2 v3 t_before t_far t_steps
  | .inr (.inr (.inr (.inr (.inl (v1, v2, t_before, t_far, t_steps))))) => bd_X12_bestRow_4 t_items t_cap t_in t_side t_used t_worth v1 v2 t_before t_far t_steps
  | .inr (.inr (.inr (.inr (.inr (.inl (v1, v2, v3, t_before, t_far, t_steps)))))) => bd_X12_bestRow_5 t_items t_cap t_in t_side t_used t_worth v1 v2 v3 t_before t_far t_steps
  | .inr (.inr (.inr (.inr (.inr (.inr (.inl (v1, v2, v3, k1, k2, t_before, t_far, t_steps))))))) => bd_X12_bestRow_6 t_items t_cap t_in t_side t_used t_worth v1 v2 v3 k1 k2 t_before t_far t_steps
  | .inr (.inr (.inr (.inr (.inr (.inr (.inr (.inl (v1, v2, v3, k0, k2, k3, t_before, t_far, t_steps)))))))) => bd_X12_bestRow_7 t_items t_cap t_in t_side t_used t_worth v1 v2 v3 k0 k2 k3 t_before t_far t_steps
  | .inr (.inr (.inr (.inr (.inr (.inr (.inr (.inr (.inl (v1, v2, v3, k0, k1, t_before, t_far, t_steps))))))))) => bd_X12_bestRow_8 t_items t_cap t_in t_side t_used t_worth v1 v2 v3 k0 k1 t_before t_far t_steps
  | .inr (.inr (.inr (.inr (.inr (.inr (.inr (.inr (.inr ((v2, v3, v4, t_before, t_far, t_steps)))))))))) => bd_X12_bestRow_9 t_items t_cap t_in t_side t_used t_worth v2 v3 v4 t_before t_far t_steps
noncomputable def gn_X12_bestRow_0 (t_items : Int32) (t_cap : Nat → Int32) (t_in : Nat → Int32) (t_side : Nat → Int32) (t_used : Nat → Int32) (t_worth : Nat → Int32) (v1 : Int32) (t_before : Nat → Int32) (t_far : Nat → Int32) (t_steps : Nat → Int32) : Option (Int32 × (Nat → Int32) × (Nat → Int32) × (Nat → Int32)) := lpC (st_X12_bestRow t_items t_cap t_in t_side t_used t_worth) (.inl (v1, t_before, t_far, t_steps))
noncomputable def gn_X12_bestRow_1 (t_items : Int32) (t_cap : Nat → Int32) (t_in : Nat → Int32) (t_side : Nat → Int32) (t_used : Nat → Int32) (t_worth : Nat → Int32) (v1 : Int32) (t_before : Nat → Int32) (t_far : Nat → Int32) (t_steps : Nat → Int32) : Option (Int32 × (Nat → Int32) × (Nat → Int32) × (Nat → Int32)) := lpC (st_X12_bestRow t_items t_cap t_in t_side t_used t_worth) (.inr (.inl (v1, t_before, t_far, t_steps)))
noncomputable def gn_X12_bestRow_2 (t_items : Int32) (t_cap : Nat → Int32) (t_in : Nat → Int32) (t_side : Nat → Int32) (t_used : Nat → Int32) (t_worth : Nat → Int32) (v1 : Int32) (k1 : Int32) (t_before : Nat → Int32) (t_far : Nat → Int32) (t_steps : Nat → Int32) : Option (Int32 × (Nat → Int32) × (Nat → Int32) × (Nat → Int32)) := lpC (st_X12_bestRow t_items t_cap t_in t_side t_used t_worth) (.inr (.inr (.inl (v1, k1, t_before, t_far, t_steps))))
noncomputable def gn_X12_bestRow_3 (t_items : Int32) (t_cap : Nat → Int32) (t_in : Nat → Int32) (t_side : Nat → Int32) (t_used : Nat → Int32) (t_worth : Nat → Int32) (v2 : Int32) (v3 : Int32) (t_before : Nat → Int32) (t_far : Nat → Int32) (t_steps : Nat → Int32) : Option (Int32 × (Nat → Int32) × (Nat → Int32) × (Nat → Int32)) := lpC (st_X12_bestRow t_items t_cap t_in t_side t_used t_worth) (.inr (.inr (.inr (.inl (v2, v3, t_before, t_far, t_steps)))))
noncomputable def gn_X12_bestRow_4 (t_items : Int32) (t_cap : Nat → Int32) (t_in : Nat → Int32) (t_side : Nat → Int32) (t_used : Nat → Int32) (t_worth : Nat → Int32) (v1 : Int32) (v2 : Int32) (t_before : Nat → Int32) (t_far : Nat → Int32) (t_steps : Nat → Int32) : Option (Int32 × (Nat → Int32) × (Nat → Int32) × (Nat → Int32)) := lpC (st_X12_bestRow t_items t_cap t_in t_side t_used t_worth) (.inr (.inr (.inr (.inr (.inl (v1, v2, t_before, t_far, t_steps))))))
noncomputable def gn_X12_bestRow_5 (t_items : Int32) (t_cap : Nat → Int32) (t_in : Nat → Int32) (t_side : Nat → Int32) (t_used : Nat → Int32) (t_worth : Nat → Int32) (v1 : Int32) (v2 : Int32) (v3 : Int32) (t_before : Nat → Int32) (t_far : Nat → Int32) (t_steps : Nat → Int32) : Option (Int32 × (Nat → Int32) × (Nat → Int32) × (Nat → Int32)) := lpC (st_X12_bestRow t_items t_cap t_in t_side t_used t_worth) (.inr (.inr (.inr (.inr (.inr (.inl (v1, v2, v3, t_before, t_far, t_steps)))))))
noncomputable def gn_X12_bestRow_6 (t_items : Int32) (t_cap : Nat → Int32) (t_in : Nat → Int32) (t_side : Nat → Int32) (t_used : Nat → Int32) (t_worth : Nat → Int32) (v1 : Int32) (v2 : Int32) (v3 : Int32) (k1 : Int32) (k2 : Int32) (t_before : Nat → Int32) (t_far : Nat → Int32) (t_steps : Nat → Int32) : Option (Int32 × (Nat → Int32) × (Nat → Int32) × (Nat → Int32)) := lpC (st_X12_bestRow t_items t_cap t_in t_side t_used t_worth) (.inr (.inr (.inr (.inr (.inr (.inr (.inl (v1, v2, v3, k1, k2, t_before, t_far, t_steps))))))))
noncomputable def gn_X12_bestRow_7 (t_items : Int32) (t_cap : Nat → Int32) (t_in : Nat → Int32) (t_side : Nat → Int32) (t_used : Nat → Int32) (t_worth : Nat → Int32) (v1 : Int32) (v2 : Int32) (v3 : Int32) (k0 : Int32) (k2 : Int32) (k3 : Int32) (t_before : Nat → Int32) (t_far : Nat → Int32) (t_steps : Nat → Int32) : Option (Int32 × (Nat → Int32) × (Nat → Int32) × (Nat → Int32)) := lpC (st_X12_bestRow t_items t_cap t_in t_side t_used t_worth) (.inr (.inr (.inr (.inr (.inr (.inr (.inr (.inl (v1, v2, v3, k0, k2, k3, t_before, t_far, t_steps)))))))))
noncomputable def gn_X12_bestRow_8 (t_items : Int32) (t_cap : Nat → Int32) (t_in : Nat → Int32) (t_side : Nat → Int32) (t_used : Nat → Int32) (t_worth : Nat → Int32) (v1 : Int32) (v2 : Int32) (v3 : Int32) (k0 : Int32) (k1 : Int32) (t_before : Nat → Int32) (t_far : Nat → Int32) (t_steps : Nat → Int32) : Option (Int32 × (Nat → Int32) × (Nat → Int32) × (Nat → Int32)) := lpC (st_X12_bestRow t_items t_cap t_in t_side t_used t_worth) (.inr (.inr (.inr (.inr (.inr (.inr (.inr (.inr (.inl (v1, v2, v3, k0, k1, t_before, t_far, t_steps))))))))))
noncomputable def gn_X12_bestRow_9 (t_items : Int32) (t_cap : Nat → Int32) (t_in : Nat → Int32) (t_side : Nat → Int32) (t_used : Nat → Int32) (t_worth : Nat → Int32) (v2 : Int32) (v3 : Int32) (v4 : Int32) (t_before : Nat → Int32) (t_far : Nat → Int32) (t_steps : Nat → Int32) : Option (Int32 × (Nat → Int32) × (Nat → Int32) × (Nat → Int32)) := lpC (st_X12_bestRow t_items t_cap t_in t_side t_used t_worth) (.inr (.inr (.inr (.inr (.inr (.inr (.inr (.inr (.inr ((v2, v3, v4, t_before, t_far, t_steps)))))))))))
theorem gq_X12_bestRow_0 (t_items : Int32) (t_cap : Nat → Int32) (t_in : Nat → Int32) (t_side : Nat → Int32) (t_used : Nat → Int32) (t_worth : Nat → Int32) (v1 : Int32) (t_before : Nat → Int32) (t_far : Nat → Int32) (t_steps : Nat → Int32) : gn_X12_bestRow_0 t_items t_cap t_in t_side t_used t_worth v1 t_before t_far t_steps =
    if t_items ≤ v1 then
      gn_X12_bestRow_1 t_items t_cap t_in t_side t_used t_worth 1 t_before t_far t_steps
    else
      if inb v1 30 = true then
      if inb v1 30 = true then
      if (t_in (v1).toNatClampNeg) = 0 then
        if inb ((2 : Int32) * v1) 60 = true then
        Option.bind (dn_X12_isRoom t_cap t_used (t_side (((2 : Int32) * v1)).toNatClampNeg)) fun q6 =>
        if q6 = true then
          if inb v1 30 = true then
          if inb v1 30 = true then
          if inb v1 30 = true then
          gn_X12_bestRow_0 t_items t_cap t_in t_side t_used t_worth (v1 + 1) (upd t_before (v1).toNatClampNeg (-1)) (upd t_far (v1).toNatClampNeg (-(t_worth (v1).toNatClampNeg))) (upd t_steps (v1).toNatClampNeg 0)
          else none
          else none
          else none
        else
          gn_X12_bestRow_2 t_items t_cap t_in t_side t_used t_worth v1 v1 (upd t_before (v1).toNatClampNeg (-1)) t_far t_steps
        else none
      else
        gn_X12_bestRow_2 t_items t_cap t_in t_side t_used t_worth v1 v1 (upd t_before (v1).toNatClampNeg (-1)) t_far t_steps
      else none
      else none := by
  rw [gn_X12_bestRow_0, lpC_eq]
  show lpO _ (bd_X12_bestRow_0 t_items t_cap t_in t_side t_used t_worth v1 t_before t_far t_steps) = _
  unfold bd_X12_bestRow_0
  simp only [lpO_ite, lpO_bind, lpO_none, lpO_l, lpO_r]
  try rfl
theorem gq_X12_bestRow_1 (t_items : Int32) (t_cap : Nat → Int32) (t_in : Nat → Int32) (t_side : Nat → Int32) (t_used : Nat → Int32) (t_worth : Nat → Int32) (v1 : Int32) (t_before : Nat → Int32) (t_far : Nat → Int32) (t_steps : Nat → Int32) : gn_X12_bestRow_1 t_items t_cap t_in t_side t_used t_worth v1 t_before t_far t_steps =
    if v1 = 0 then
      gn_X12_bestRow_3 t_items t_cap t_in t_side t_used t_worth (-1) 0 t_before t_far t_steps
    else
      gn_X12_bestRow_4 t_items t_cap t_in t_side t_used t_worth 0 0 t_before t_far t_steps := by
  rw [gn_X12_bestRow_1, lpC_eq]
  show lpO _ (bd_X12_bestRow_1 t_items t_cap t_in t_side t_used t_worth v1 t_before t_far t_steps) = _
  unfold bd_X12_bestRow_1
  simp only [lpO_ite, lpO_bind, lpO_none, lpO_l, lpO_r]
  try rfl
theorem gq_X12_bestRow_2 (t_items : Int32) (t_cap : Nat → Int32) (t_in : Nat → Int32) (t_side : Nat → Int32) (t_used : Nat → Int32) (t_worth : Nat → Int32) (v1 : Int32) (k1 : Int32) (t_before : Nat → Int32) (t_far : Nat → Int32) (t_steps : Nat → Int32) : gn_X12_bestRow_2 t_items t_cap t_in t_side t_used t_worth v1 k1 t_before t_far t_steps =
    if inb k1 30 = true then
    if inb v1 30 = true then
    gn_X12_bestRow_0 t_items t_cap t_in t_side t_used t_worth (v1 + 1) t_before (upd t_far (k1).toNatClampNeg 1000000000) (upd t_steps (v1).toNatClampNeg 0)
    else none
    else none := by
  rw [gn_X12_bestRow_2, lpC_eq]
  show lpO _ (bd_X12_bestRow_2 t_items t_cap t_in t_side t_used t_worth v1 k1 t_before t_far t_steps) = _
  unfold bd_X12_bestRow_2
  simp only [lpO_ite, lpO_bind, lpO_none, lpO_l, lpO_r]
  try rfl
theorem gq_X12_bestRow_3 (t_items : Int32) (t_cap : Nat → Int32) (t_in : Nat → Int32) (t_side : Nat → Int32) (t_used : Nat → Int32) (t_worth : Nat → Int32) (v2 : Int32) (v3 : Int32) (t_before : Nat → Int32) (t_far : Nat → Int32) (t_steps : Nat → Int32) : gn_X12_bestRow_3 t_items t_cap t_in t_side t_used t_worth v2 v3 t_before t_far t_steps =
    if t_items ≤ v3 then
      some (v2, t_before, t_far, t_steps)
    else
      if inb v3 30 = true then
      if (t_in (v3).toNatClampNeg) = 0 then
        if inb v3 30 = true then
        if (t_far (v3).toNatClampNeg) = 1000000000 then
          gn_X12_bestRow_3 t_items t_cap t_in t_side t_used t_worth v2 (v3 + 1) t_before t_far t_steps
        else
          if inb (((2 : Int32) * v3) + 1) 60 = true then
          Option.bind (dn_X12_isRoom t_cap t_used (t_side ((((2 : Int32) * v3) + 1)).toNatClampNeg)) fun q20 =>
          if q20 = true then
            if v2 < 0 then
              gn_X12_bestRow_3 t_items t_cap t_in t_side t_used t_worth v3 (v3 + 1) t_before t_far t_steps
            else
              if inb v3 30 = true then
              if inb v2 30 = true then
              if (t_far (v3).toNatClampNeg) < (t_far (v2).toNatClampNeg) then
                gn_X12_bestRow_3 t_items t_cap t_in t_side t_used t_worth v3 (v3 + 1) t_before t_far t_steps
              else
                if inb v3 30 = true then
                if inb v2 30 = true then
                if (t_far (v3).toNatClampNeg) = (t_far (v2).toNatClampNeg) then
                  if inb v3 30 = true then
                  if inb v2 30 = true then
                  if (t_steps (v2).toNatClampNeg) ≤ (t_steps (v3).toNatClampNeg) then
                    gn_X12_bestRow_3 t_items t_cap t_in t_side t_used t_worth v2 (v3 + 1) t_before t_far t_steps
                  else
                    gn_X12_bestRow_3 t_items t_cap t_in t_side t_used t_worth v3 (v3 + 1) t_before t_far t_steps
                  else none
                  else none
                else
                  gn_X12_bestRow_3 t_items t_cap t_in t_side t_used t_worth v2 (v3 + 1) t_before t_far t_steps
                else none
                else none
              else none
              else none
          else
            gn_X12_bestRow_3 t_items t_cap t_in t_side t_used t_worth v2 (v3 + 1) t_before t_far t_steps
          else none
        else none
      else
        gn_X12_bestRow_3 t_items t_cap t_in t_side t_used t_worth v2 (v3 + 1) t_before t_far t_steps
      else none := by
  rw [gn_X12_bestRow_3, lpC_eq]
  show lpO _ (bd_X12_bestRow_3 t_items t_cap t_in t_side t_used t_worth v2 v3 t_before t_far t_steps) = _
  unfold bd_X12_bestRow_3
  simp only [lpO_ite, lpO_bind, lpO_none, lpO_l, lpO_r]
  try rfl
theorem gq_X12_bestRow_4 (t_items : Int32) (t_cap : Nat → Int32) (t_in : Nat → Int32) (t_side : Nat → Int32) (t_used : Nat → Int32) (t_worth : Nat → Int32) (v1 : Int32) (v2 : Int32) (t_before : Nat → Int32) (t_far : Nat → Int32) (t_steps : Nat → Int32) : gn_X12_bestRow_4 t_items t_cap t_in t_side t_used t_worth v1 v2 t_before t_far t_steps =
    if t_items ≤ v2 then
      gn_X12_bestRow_1 t_items t_cap t_in t_side t_used t_worth v1 t_before t_far t_steps
    else
      if inb v2 30 = true then
      if (t_far (v2).toNatClampNeg) = 1000000000 then
        gn_X12_bestRow_4 t_items t_cap t_in t_side t_used t_worth v1 (v2 + 1) t_before t_far t_steps
      else
        gn_X12_bestRow_5 t_items t_cap t_in t_side t_used t_worth v1 v2 0 t_before t_far t_steps
      else none := by
  rw [gn_X12_bestRow_4, lpC_eq]
  show lpO _ (bd_X12_bestRow_4 t_items t_cap t_in t_side t_used t_worth v1 v2 t_before t_far t_steps) = _
  unfold bd_X12_bestRow_4
  simp only [lpO_ite, lpO_bind, lpO_none, lpO_l, lpO_r]
  try rfl
theorem gq_X12_bestRow_5 (t_items : Int32) (t_cap : Nat → Int32) (t_in : Nat → Int32) (t_side : Nat → Int32) (t_used : Nat → Int32) (t_worth : Nat → Int32) (v1 : Int32) (v2 : Int32) (v3 : Int32) (t_before : Nat → Int32) (t_far : Nat → Int32) (t_steps : Nat → Int32) : gn_X12_bestRow_5 t_items t_cap t_in t_side t_used t_worth v1 v2 v3 t_before t_far t_steps =
    if t_items ≤ v3 then
      gn_X12_bestRow_4 t_items t_cap t_in t_side t_used t_worth v1 (v2 + 1) t_before t_far t_steps
    else
      if inb v2 30 = true then
      if inb v3 30 = true then
      if (t_in (v2).toNatClampNeg) = (t_in (v3).toNatClampNeg) then
        gn_X12_bestRow_5 t_items t_cap t_in t_side t_used t_worth v1 v2 (v3 + 1) t_before t_far t_steps
      else
        if inb v2 30 = true then
        if (t_in (v2).toNatClampNeg) = 0 then
          gn_X12_bestRow_6 t_items t_cap t_in t_side t_used t_worth v1 v2 v3 ((2 : Int32) * v2) 1 t_before t_far t_steps
        else
          gn_X12_bestRow_6 t_items t_cap t_in t_side t_used t_worth v1 v2 v3 ((2 : Int32) * v2) 0 t_before t_far t_steps
        else none
      else none
      else none := by
  rw [gn_X12_bestRow_5, lpC_eq]
  show lpO _ (bd_X12_bestRow_5 t_items t_cap t_in t_side t_used t_worth v1 v2 v3 t_before t_far t_steps) = _
  unfold bd_X12_bestRow_5
  simp only [lpO_ite, lpO_bind, lpO_none, lpO_l, lpO_r]
  try rfl
theorem gq_X12_bestRow_6 (t_items : Int32) (t_cap : Nat → Int32) (t_in : Nat → Int32) (t_side : Nat → Int32) (t_used : Nat → Int32) (t_worth : Nat → Int32) (v1 : Int32) (v2 : Int32) (v3 : Int32) (k1 : Int32) (k2 : Int32) (t_before : Nat → Int32) (t_far : Nat → Int32) (t_steps : Nat → Int32) : gn_X12_bestRow_6 t_items t_cap t_in t_side t_used t_worth v1 v2 v3 k1 k2 t_before t_far t_steps =
    if inb (k1 + k2) 60 = true then
    if inb v2 30 = true then
    if (t_in (v2).toNatClampNeg) = 0 then
      gn_X12_bestRow_7 t_items t_cap t_in t_side t_used t_worth v1 v2 v3 (t_side ((k1 + k2)).toNatClampNeg) ((2 : Int32) * v3) 1 t_before t_far t_steps
    else
      gn_X12_bestRow_7 t_items t_cap t_in t_side t_used t_worth v1 v2 v3 (t_side ((k1 + k2)).toNatClampNeg) ((2 : Int32) * v3) 0 t_before t_far t_steps
    else none
    else none := by
  rw [gn_X12_bestRow_6, lpC_eq]
  show lpO _ (bd_X12_bestRow_6 t_items t_cap t_in t_side t_used t_worth v1 v2 v3 k1 k2 t_before t_far t_steps) = _
  unfold bd_X12_bestRow_6
  simp only [lpO_ite, lpO_bind, lpO_none, lpO_l, lpO_r]
  try rfl
theorem gq_X12_bestRow_7 (t_items : Int32) (t_cap : Nat → Int32) (t_in : Nat → Int32) (t_side : Nat → Int32) (t_used : Nat → Int32) (t_worth : Nat → Int32) (v1 : Int32) (v2 : Int32) (v3 : Int32) (k0 : Int32) (k2 : Int32) (k3 : Int32) (t_before : Nat → Int32) (t_far : Nat → Int32) (t_steps : Nat → Int32) : gn_X12_bestRow_7 t_items t_cap t_in t_side t_used t_worth v1 v2 v3 k0 k2 k3 t_before t_far t_steps =
    if inb (k2 + k3) 60 = true then
    if k0 = (t_side ((k2 + k3)).toNatClampNeg) then
      if inb v2 30 = true then
      if inb v3 30 = true then
      if (t_in (v3).toNatClampNeg) = 0 then
        if inb v3 30 = true then
        gn_X12_bestRow_8 t_items t_cap t_in t_side t_used t_worth v1 v2 v3 (t_far (v2).toNatClampNeg) (-(t_worth (v3).toNatClampNeg)) t_before t_far t_steps
        else none
      else
        if inb v3 30 = true then
        gn_X12_bestRow_8 t_items t_cap t_in t_side t_used t_worth v1 v2 v3 (t_far (v2).toNatClampNeg) (t_worth (v3).toNatClampNeg) t_before t_far t_steps
        else none
      else none
      else none
    else
      gn_X12_bestRow_5 t_items t_cap t_in t_side t_used t_worth v1 v2 (v3 + 1) t_before t_far t_steps
    else none := by
  rw [gn_X12_bestRow_7, lpC_eq]
  show lpO _ (bd_X12_bestRow_7 t_items t_cap t_in t_side t_used t_worth v1 v2 v3 k0 k2 k3 t_before t_far t_steps) = _
  unfold bd_X12_bestRow_7
  simp only [lpO_ite, lpO_bind, lpO_none, lpO_l, lpO_r]
  try rfl
theorem gq_X12_bestRow_8 (t_items : Int32) (t_cap : Nat → Int32) (t_in : Nat → Int32) (t_side : Nat → Int32) (t_used : Nat → Int32) (t_worth : Nat → Int32) (v1 : Int32) (v2 : Int32) (v3 : Int32) (k0 : Int32) (k1 : Int32) (t_before : Nat → Int32) (t_far : Nat → Int32) (t_steps : Nat → Int32) : gn_X12_bestRow_8 t_items t_cap t_in t_side t_used t_worth v1 v2 v3 k0 k1 t_before t_far t_steps =
    if inb v3 30 = true then
    if (t_far (v3).toNatClampNeg) < (k0 + k1) then
      gn_X12_bestRow_5 t_items t_cap t_in t_side t_used t_worth v1 v2 (v3 + 1) t_before t_far t_steps
    else
      if inb v3 30 = true then
      if (k0 + k1) = (t_far (v3).toNatClampNeg) then
        if inb v2 30 = true then
        if inb v3 30 = true then
        if ((t_steps (v2).toNatClampNeg) + 1) < (t_steps (v3).toNatClampNeg) then
          gn_X12_bestRow_9 t_items t_cap t_in t_side t_used t_worth v2 v3 (k0 + k1) t_before t_far t_steps
        else
          gn_X12_bestRow_5 t_items t_cap t_in t_side t_used t_worth v1 v2 (v3 + 1) t_before t_far t_steps
        else none
        else none
      else
        gn_X12_bestRow_9 t_items t_cap t_in t_side t_used t_worth v2 v3 (k0 + k1) t_before t_far t_steps
      else none
    else none := by
  rw [gn_X12_bestRow_8, lpC_eq]
  show lpO _ (bd_X12_bestRow_8 t_items t_cap t_in t_side t_used t_worth v1 v2 v3 k0 k1 t_before t_far t_steps) = _
  unfold bd_X12_bestRow_8
  simp only [lpO_ite, lpO_bind, lpO_none, lpO_l, lpO_r]
  try rfl
theorem gq_X12_bestRow_9 (t_items : Int32) (t_cap : Nat → Int32) (t_in : Nat → Int32) (t_side : Nat → Int32) (t_used : Nat → Int32) (t_worth : Nat → Int32) (v2 : Int32) (v3 : Int32) (v4 : Int32) (t_before : Nat → Int32) (t_far : Nat → Int32) (t_steps : Nat → Int32) : gn_X12_bestRow_9 t_items t_cap t_in t_side t_used t_worth v2 v3 v4 t_before t_far t_steps =
    if inb v3 30 = true then
    if inb v2 30 = true then
    if inb v3 30 = true then
    if inb v3 30 = true then
    gn_X12_bestRow_5 t_items t_cap t_in t_side t_used t_worth 1 v2 (v3 + 1) (upd t_before (v3).toNatClampNeg v2) (upd t_far (v3).toNatClampNeg v4) (upd t_steps (v3).toNatClampNeg ((t_steps (v2).toNatClampNeg) + 1))
    else none
    else none
    else none
    else none := by
  rw [gn_X12_bestRow_9, lpC_eq]
  show lpO _ (bd_X12_bestRow_9 t_items t_cap t_in t_side t_used t_worth v2 v3 v4 t_before t_far t_steps) = _
  unfold bd_X12_bestRow_9
  simp only [lpO_ite, lpO_bind, lpO_none, lpO_l, lpO_r]
  try rfl
noncomputable def dn_X12_bestRow (t_items : Int32) (t_before : Nat → Int32) (t_cap : Nat → Int32) (t_far : Nat → Int32) (t_in : Nat → Int32) (t_side : Nat → Int32) (t_steps : Nat → Int32) (t_used : Nat → Int32) (t_worth : Nat → Int32) : Option (Int32 × (Nat → Int32) × (Nat → Int32) × (Nat → Int32)) :=
  gn_X12_bestRow_0 t_items t_cap t_in t_side t_used t_worth 0 t_before t_far t_steps
noncomputable def bd_X12_mostOf_0 (t_items : Int32) (t_cap : Nat → Int32) (t_side : Nat → Int32) (t_worth : Nat → Int32) (v1 : Int32) (t_used : Nat → Int32) (t_in : Nat → Int32) (t_before : Nat → Int32) (t_far : Nat → Int32) (t_steps : Nat → Int32) : Option (((Int32 × (Nat → Int32) × (Nat → Int32) × (Nat → Int32) × (Nat → Int32) × (Nat → Int32)) ⊕ ((Int32 × (Nat → Int32) × (Nat → Int32) × (Nat → Int32) × (Nat → Int32) × (Nat → Int32)) ⊕ ((Int32 × (Nat → Int32) × (Nat → Int32) × (Nat → Int32) × (Nat → Int32) × (Nat → Int32)) ⊕ ((Int32 × Int32 × (Nat → Int32) × (Nat → Int32) × (Nat → Int32) × (Nat → Int32) × (Nat → Int32)) ⊕ ((Int32 × Int32 × (Nat → Int32) × (Nat → Int32) × (Nat → Int32) × (Nat → Int32) × (Nat → Int32)) ⊕ ((Int32 × Int32 × (Nat → Int32) × (Nat → Int32) × (Nat → Int32) × (Nat → Int32) × (Nat → Int32)))))))) ⊕ (Int32 × (Nat → Int32) × (Nat → Int32) × (Nat → Int32) × (Nat → Int32) × (Nat → Int32))) :=
  if (10 : Int32) ≤ v1 then
    some (.inl (.inr (.inl (0, t_used, t_in, t_before, t_far, t_steps))))
  else
    if inb v1 10 = true then
    some (.inl (.inl (v1 + 1, upd t_used (v1).toNatClampNeg 0, t_in, t_before, t_far, t_steps)))
    else none
noncomputable def bd_X12_mostOf_1 (t_items : Int32) (t_cap : Nat → Int32) (t_side : Nat → Int32) (t_worth : Nat → Int32) (v1 : Int32) (t_used : Nat → Int32) (t_in : Nat → Int32) (t_before : Nat → Int32) (t_far : Nat → Int32) (t_steps : Nat → Int32) : Option (((Int32 × (Nat → Int32) × (Nat → Int32) × (Nat → Int32) × (Nat → Int32) × (Nat → Int32)) ⊕ ((Int32 × (Nat → Int32) × (Nat → Int32) × (Nat → Int32) × (Nat → Int32) × (Nat → Int32)) ⊕ ((Int32 × (Nat → Int32) × (Nat → Int32) × (Nat → Int32) × (Nat → Int32) × (Nat → Int32)) ⊕ ((Int32 × Int32 × (Nat → Int32) × (Nat → Int32) × (Nat → Int32) × (Nat → Int32) × (Nat → Int32)) ⊕ ((Int32 × Int32 × (Nat → Int32) × (Nat → Int32) × (Nat → Int32) × (Nat → Int32) × (Nat → Int32)) ⊕ ((Int32 × Int32 × (Nat → Int32) × (Nat → Int32) × (Nat → Int32) × (Nat → Int32) × (Nat → Int32)))))))) ⊕ (Int32 × (Nat → Int32) × (Nat → Int32) × (Nat → Int32) × (Nat → Int32) × (Nat → Int32))) :=
  if t_items ≤ v1 then
    some (.inl (.inr (.inr (.inl (0, t_used, t_in, t_before, t_far, t_steps)))))
  else
    if inb v1 30 = true then
    some (.inl (.inr (.inl (v1 + 1, t_used, upd t_in (v1).toNatClampNeg (vp_nar .boolean 0), t_before, t_far, t_steps))))
    else none
noncomputable def bd_X12_mostOf_2 (t_items : Int32) (t_cap : Nat → Int32) (t_side : Nat → Int32) (t_worth : Nat → Int32) (v1 : Int32) (t_used : Nat → Int32) (t_in : Nat → Int32) (t_before : Nat → Int32) (t_far : Nat → Int32) (t_steps : Nat → Int32) : Option (((Int32 × (Nat → Int32) × (Nat → Int32) × (Nat → Int32) × (Nat → Int32) × (Nat → Int32)) ⊕ ((Int32 × (Nat → Int32) × (Nat → Int32) × (Nat → Int32) × (Nat → Int32) × (Nat → Int32)) ⊕ ((Int32 × (Nat → Int32) × (Nat → Int32) × (Nat → Int32) × (Nat → Int32) × (Nat → Int32)) ⊕ ((Int32 × Int32 × (Nat → Int32) × (Nat → Int32) × (Nat → Int32) × (Nat → Int32) × (Nat → Int32)) ⊕ ((Int32 × Int32 × (Nat → Int32) × (Nat → Int32) × (Nat → Int32) × (Nat → Int32) × (Nat → Int32)) ⊕ ((Int32 × Int32 × (Nat → Int32) × (Nat → Int32) × (Nat → Int32) × (Nat → Int32) × (Nat → Int32)))))))) ⊕ (Int32 × (Nat → Int32) × (Nat → Int32) × (Nat → Int32) × (Nat → Int32) × (Nat → Int32))) :=
  Option.bind (dn_X12_bestRow t_items t_before t_cap t_far t_in t_side t_steps t_used t_worth) fun q5 =>
  if q5.1 < 0 then
    some (.inr (v1, t_used, t_in, q5.2.1, q5.2.2.1, q5.2.2.2))
  else
    if inb q5.1 30 = true then
    if (q5.2.2.1 (q5.1).toNatClampNeg) < 0 then
      if inb q5.1 30 = true then
      some (.inl (.inr (.inr (.inr (.inl (v1 - (q5.2.2.1 (q5.1).toNatClampNeg), q5.1, t_used, t_in, q5.2.1, q5.2.2.1, q5.2.2.2))))))
      else none
    else
      some (.inr (v1, t_used, t_in, q5.2.1, q5.2.2.1, q5.2.2.2))
    else none
noncomputable def bd_X12_mostOf_3 (t_items : Int32) (t_cap : Nat → Int32) (t_side : Nat → Int32) (t_worth : Nat → Int32) (v1 : Int32) (v3 : Int32) (t_used : Nat → Int32) (t_in : Nat → Int32) (t_before : Nat → Int32) (t_far : Nat → Int32) (t_steps : Nat → Int32) : Option (((Int32 × (Nat → Int32) × (Nat → Int32) × (Nat → Int32) × (Nat → Int32) × (Nat → Int32)) ⊕ ((Int32 × (Nat → Int32) × (Nat → Int32) × (Nat → Int32) × (Nat → Int32) × (Nat → Int32)) ⊕ ((Int32 × (Nat → Int32) × (Nat → Int32) × (Nat → Int32) × (Nat → Int32) × (Nat → Int32)) ⊕ ((Int32 × Int32 × (Nat → Int32) × (Nat → Int32) × (Nat → Int32) × (Nat → Int32) × (Nat → Int32)) ⊕ ((Int32 × Int32 × (Nat → Int32) × (Nat → Int32) × (Nat → Int32) × (Nat → Int32) × (Nat → Int32)) ⊕ ((Int32 × Int32 × (Nat → Int32) × (Nat → Int32) × (Nat → Int32) × (Nat → Int32) × (Nat → Int32)))))))) ⊕ (Int32 × (Nat → Int32) × (Nat → Int32) × (Nat → Int32) × (Nat → Int32) × (Nat → Int32))) :=
  if v3 < 0 then
    some (.inl (.inr (.inr (.inr (.inr (.inl (v1, 0, t_used, t_in, t_before, t_far, t_steps)))))))
  else
    if inb v3 30 = true then
    if (t_in (v3).toNatClampNeg) = 0 then
      if inb v3 30 = true then
      if inb v3 30 = true then
      some (.inl (.inr (.inr (.inr (.inl (v1, t_before (v3).toNatClampNeg, t_used, upd t_in (v3).toNatClampNeg (vp_nar .boolean 1), t_before, t_far, t_steps))))))
      else none
      else none
    else
      if inb v3 30 = true then
      if inb v3 30 = true then
      some (.inl (.inr (.inr (.inr (.inl (v1, t_before (v3).toNatClampNeg, t_used, upd t_in (v3).toNatClampNeg (vp_nar .boolean 0), t_before, t_far, t_steps))))))
      else none
      else none
    else none
noncomputable def bd_X12_mostOf_4 (t_items : Int32) (t_cap : Nat → Int32) (t_side : Nat → Int32) (t_worth : Nat → Int32) (v1 : Int32) (v3 : Int32) (t_used : Nat → Int32) (t_in : Nat → Int32) (t_before : Nat → Int32) (t_far : Nat → Int32) (t_steps : Nat → Int32) : Option (((Int32 × (Nat → Int32) × (Nat → Int32) × (Nat → Int32) × (Nat → Int32) × (Nat → Int32)) ⊕ ((Int32 × (Nat → Int32) × (Nat → Int32) × (Nat → Int32) × (Nat → Int32) × (Nat → Int32)) ⊕ ((Int32 × (Nat → Int32) × (Nat → Int32) × (Nat → Int32) × (Nat → Int32) × (Nat → Int32)) ⊕ ((Int32 × Int32 × (Nat → Int32) × (Nat → Int32) × (Nat → Int32) × (Nat → Int32) × (Nat → Int32)) ⊕ ((Int32 × Int32 × (Nat → Int32) × (Nat → Int32) × (Nat → Int32) × (Nat → Int32) × (Nat → Int32)) ⊕ ((Int32 × Int32 × (Nat → Int32) × (Nat → Int32) × (Nat → Int32) × (Nat → Int32) × (Nat → Int32)))))))) ⊕ (Int32 × (Nat → Int32) × (Nat → Int32) × (Nat → Int32) × (Nat → Int32) × (Nat → Int32))) :=
  if (10 : Int32) ≤ v3 then
    some (.inl (.inr (.inr (.inr (.inr (.inr ((v1, 0, t_used, t_in, t_before, t_far, t_steps))))))))
  else
    if inb v3 10 = true then
    some (.inl (.inr (.inr (.inr (.inr (.inl (v1, v3 + 1, upd t_used (v3).toNatClampNeg 0, t_in, t_before, t_far, t_steps)))))))
    else none
noncomputable def bd_X12_mostOf_5 (t_items : Int32) (t_cap : Nat → Int32) (t_side : Nat → Int32) (t_worth : Nat → Int32) (v1 : Int32) (v3 : Int32) (t_used : Nat → Int32) (t_in : Nat → Int32) (t_before : Nat → Int32) (t_far : Nat → Int32) (t_steps : Nat → Int32) : Option (((Int32 × (Nat → Int32) × (Nat → Int32) × (Nat → Int32) × (Nat → Int32) × (Nat → Int32)) ⊕ ((Int32 × (Nat → Int32) × (Nat → Int32) × (Nat → Int32) × (Nat → Int32) × (Nat → Int32)) ⊕ ((Int32 × (Nat → Int32) × (Nat → Int32) × (Nat → Int32) × (Nat → Int32) × (Nat → Int32)) ⊕ ((Int32 × Int32 × (Nat → Int32) × (Nat → Int32) × (Nat → Int32) × (Nat → Int32) × (Nat → Int32)) ⊕ ((Int32 × Int32 × (Nat → Int32) × (Nat → Int32) × (Nat → Int32) × (Nat → Int32) × (Nat → Int32)) ⊕ ((Int32 × Int32 × (Nat → Int32) × (Nat → Int32) × (Nat → Int32) × (Nat → Int32) × (Nat → Int32)))))))) ⊕ (Int32 × (Nat → Int32) × (Nat → Int32) × (Nat → Int32) × (Nat → Int32) × (Nat → Int32))) :=
  if t_items ≤ v3 then
    some (.inl (.inr (.inr (.inl (v1, t_used, t_in, t_before, t_far, t_steps)))))
  else
    if inb v3 30 = true then
    if (t_in (v3).toNatClampNeg) = 0 then
      some (.inl (.inr (.inr (.inr (.inr (.inr ((v1, v3 + 1, t_used, t_in, t_before, t_far, t_steps))))))))
    else
      if inb ((2 : Int32) * v3) 60 = true then
      if inb (t_side (((2 : Int32) * v3)).toNatClampNeg) 10 = true then
      if inb (t_side (((2 : Int32) * v3)).toNatClampNeg) 10 = true then
      if inb (((2 : Int32) * v3) + 1) 60 = true then
      if inb (t_side ((((2 : Int32) * v3) + 1)).toNatClampNeg) 10 = true then
      if inb (t_side ((((2 : Int32) * v3) + 1)).toNatClampNeg) 10 = true then
      some (.inl (.inr (.inr (.inr (.inr (.inr ((v1, v3 + 1, upd (upd t_used (t_side (((2 : Int32) * v3)).toNatClampNeg).toNatClampNeg ((t_used ((t_side (((2 : Int32) * v3)).toNatClampNeg)).toNatClampNeg) + 1)) (t_side ((((2 : Int32) * v3) + 1)).toNatClampNeg).toNatClampNeg (((upd t_used (t_side (((2 : Int32) * v3)).toNatClampNeg).toNatClampNeg ((t_used ((t_side (((2 : Int32) * v3)).toNatClampNeg)).toNatClampNeg) + 1)) ((t_side ((((2 : Int32) * v3) + 1)).toNatClampNeg)).toNatClampNeg) + 1), t_in, t_before, t_far, t_steps))))))))
      else none
      else none
      else none
      else none
      else none
      else none
    else none
noncomputable def st_X12_mostOf (t_items : Int32) (t_cap : Nat → Int32) (t_side : Nat → Int32) (t_worth : Nat → Int32) : ((Int32 × (Nat → Int32) × (Nat → Int32) × (Nat → Int32) × (Nat → Int32) × (Nat → Int32)) ⊕ ((Int32 × (Nat → Int32) × (Nat → Int32) × (Nat → Int32) × (Nat → Int32) × (Nat → Int32)) ⊕ ((Int32 × (Nat → Int32) × (Nat → Int32) × (Nat → Int32) × (Nat → Int32) × (Nat → Int32)) ⊕ ((Int32 × Int32 × (Nat → Int32) × (Nat → Int32) × (Nat → Int32) × (Nat → Int32) × (Nat → Int32)) ⊕ ((Int32 × Int32 × (Nat → Int32) × (Nat → Int32) × (Nat → Int32) × (Nat → Int32) × (Nat → Int32)) ⊕ ((Int32 × Int32 × (Nat → Int32) × (Nat → Int32) × (Nat → Int32) × (Nat → Int32) × (Nat → Int32)))))))) → Option (((Int32 × (Nat → Int32) × (Nat → Int32) × (Nat → Int32) × (Nat → Int32) × (Nat → Int32)) ⊕ ((Int32 × (Nat → Int32) × (Nat → Int32) × (Nat → Int32) × (Nat → Int32) × (Nat → Int32)) ⊕ ((Int32 × (Nat → Int32) × (Nat → Int32) × (Nat → Int32) × (Nat → Int32) × (Nat → Int32)) ⊕ ((Int32 × Int32 × (Nat → Int32) × (Nat → Int32) × (Nat → Int32) × (Nat → Int32) × (Nat → Int32)) ⊕ ((Int32 × Int32 × (Nat → Int32) × (Nat → Int32) × (Nat → Int32) × (Nat → Int32) × (Nat → Int32)) ⊕ ((Int32 × Int32 × (Nat → Int32) × (Nat → Int32) × (Nat → Int32) × (Nat → Int32) × (Nat → Int32)))))))) ⊕ (Int32 × (Nat → Int32) × (Nat → Int32) × (Nat → Int32) × (Nat → Int32) × (Nat → Int32))) := fun s => match s with
  | .inl (v1, t_used, t_in, t_before, t_far, t_steps) => bd_X12_mostOf_0 t_items t_cap t_side t_worth v1 t_used t_in t_before t_far t_steps
  | .inr (.inl (v1, t_used, t_in, t_before, t_far, t_steps)) => bd_X12_mostOf_1 t_items t_cap t_side t_worth v1 t_used t_in t_before t_far t_steps
  | .inr (.inr (.inl (v1, t_used, t_in, t_before, t_far, t_steps))) => bd_X12_mostOf_2 t_items t_cap t_side t_worth v1 t_used t_in t_before t_far t_steps
  | .inr (.inr (.inr (.inl (v1, v3, t_used, t_in, t_before, t_far, t_steps)))) => bd_X12_mostOf_3 t_items t_cap t_side t_worth v1 v3 t_used t_in t_before t_far t_steps
  | .inr (.inr (.inr (.inr (.inl (v1, v3, t_used, t_in, t_before, t_far, t_steps))))) => bd_X12_mostOf_4 t_items t_cap t_side t_worth v1 v3 t_used t_in t_before t_far t_steps
  | .inr (.inr (.inr (.inr (.inr ((v1, v3, t_used, t_in, t_before, t_far, t_steps)))))) => bd_X12_mostOf_5 t_items t_cap t_side t_worth v1 v3 t_used t_in t_before t_far t_steps
noncomputable def gn_X12_mostOf_0 (t_items : Int32) (t_cap : Nat → Int32) (t_side : Nat → Int32) (t_worth : Nat → Int32) (v1 : Int32) (t_used : Nat → Int32) (t_in : Nat → Int32) (t_before : Nat → Int32) (t_far : Nat → Int32) (t_steps : Nat → Int32) : Option (Int32 × (Nat → Int32) × (Nat → Int32) × (Nat → Int32) × (Nat → Int32) × (Nat → Int32)) := lpC (st_X12_mostOf t_items t_cap t_side t_worth) (.inl (v1, t_used, t_in, t_before, t_far, t_steps))
noncomputable def gn_X12_mostOf_1 (t_items : Int32) (t_cap : Nat → Int32) (t_side : Nat → Int32) (t_worth : Nat → Int32) (v1 : Int32) (t_used : Nat → Int32) (t_in : Nat → Int32) (t_before : Nat → Int32) (t_far : Nat → Int32) (t_steps : Nat → Int32) : Option (Int32 × (Nat → Int32) × (Nat → Int32) × (Nat → Int32) × (Nat → Int32) × (Nat → Int32)) := lpC (st_X12_mostOf t_items t_cap t_side t_worth) (.inr (.inl (v1, t_used, t_in, t_before, t_far, t_steps)))
noncomputable def gn_X12_mostOf_2 (t_items : Int32) (t_cap : Nat → Int32) (t_side : Nat → Int32) (t_worth : Nat → Int32) (v1 : Int32) (t_used : Nat → Int32) (t_in : Nat → Int32) (t_before : Nat → Int32) (t_far : Nat → Int32) (t_steps : Nat → Int32) : Option (Int32 × (Nat → Int32) × (Nat → Int32) × (Nat → Int32) × (Nat → Int32) × (Nat → Int32)) := lpC (st_X12_mostOf t_items t_cap t_side t_worth) (.inr (.inr (.inl (v1, t_used, t_in, t_before, t_far, t_steps))))
noncomputable def gn_X12_mostOf_3 (t_items : Int32) (t_cap : Nat → Int32) (t_side : Nat → Int32) (t_worth : Nat → Int32) (v1 : Int32) (v3 : Int32) (t_used : Nat → Int32) (t_in : Nat → Int32) (t_before : Nat → Int32) (t_far : Nat → Int32) (t_steps : Nat → Int32) : Option (Int32 × (Nat → Int32) × (Nat → Int32) × (Nat → Int32) × (Nat → Int32) × (Nat → Int32)) := lpC (st_X12_mostOf t_items t_cap t_side t_worth) (.inr (.inr (.inr (.inl (v1, v3, t_used, t_in, t_before, t_far, t_steps)))))
noncomputable def gn_X12_mostOf_4 (t_items : Int32) (t_cap : Nat → Int32) (t_side : Nat → Int32) (t_worth : Nat → Int32) (v1 : Int32) (v3 : Int32) (t_used : Nat → Int32) (t_in : Nat → Int32) (t_before : Nat → Int32) (t_far : Nat → Int32) (t_steps : Nat → Int32) : Option (Int32 × (Nat → Int32) × (Nat → Int32) × (Nat → Int32) × (Nat → Int32) × (Nat → Int32)) := lpC (st_X12_mostOf t_items t_cap t_side t_worth) (.inr (.inr (.inr (.inr (.inl (v1, v3, t_used, t_in, t_before, t_far, t_steps))))))
noncomputable def gn_X12_mostOf_5 (t_items : Int32) (t_cap : Nat → Int32) (t_side : Nat → Int32) (t_worth : Nat → Int32) (v1 : Int32) (v3 : Int32) (t_used : Nat → Int32) (t_in : Nat → Int32) (t_before : Nat → Int32) (t_far : Nat → Int32) (t_steps : Nat → Int32) : Option (Int32 × (Nat → Int32) × (Nat → Int32) × (Nat → Int32) × (Nat → Int32) × (Nat → Int32)) := lpC (st_X12_mostOf t_items t_cap t_side t_worth) (.inr (.inr (.inr (.inr (.inr ((v1, v3, t_used, t_in, t_before, t_far, t_steps)))))))
theorem gq_X12_mostOf_0 (t_items : Int32) (t_cap : Nat → Int32) (t_side : Nat → Int32) (t_worth : Nat → Int32) (v1 : Int32) (t_used : Nat → Int32) (t_in : Nat → Int32) (t_before : Nat → Int32) (t_far : Nat → Int32) (t_steps : Nat → Int32) : gn_X12_mostOf_0 t_items t_cap t_side t_worth v1 t_used t_in t_before t_far t_steps =
    if (10 : Int32) ≤ v1 then
      gn_X12_mostOf_1 t_items t_cap t_side t_worth 0 t_used t_in t_before t_far t_steps
    else
      if inb v1 10 = true then
      gn_X12_mostOf_0 t_items t_cap t_side t_worth (v1 + 1) (upd t_used (v1).toNatClampNeg 0) t_in t_before t_far t_steps
      else none := by
  rw [gn_X12_mostOf_0, lpC_eq]
  show lpO _ (bd_X12_mostOf_0 t_items t_cap t_side t_worth v1 t_used t_in t_before t_far t_steps) = _
  unfold bd_X12_mostOf_0
  simp only [lpO_ite, lpO_bind, lpO_none, lpO_l, lpO_r]
  try rfl
theorem gq_X12_mostOf_1 (t_items : Int32) (t_cap : Nat → Int32) (t_side : Nat → Int32) (t_worth : Nat → Int32) (v1 : Int32) (t_used : Nat → Int32) (t_in : Nat → Int32) (t_before : Nat → Int32) (t_far : Nat → Int32) (t_steps : Nat → Int32) : gn_X12_mostOf_1 t_items t_cap t_side t_worth v1 t_used t_in t_before t_far t_steps =
    if t_items ≤ v1 then
      gn_X12_mostOf_2 t_items t_cap t_side t_worth 0 t_used t_in t_before t_far t_steps
    else
      if inb v1 30 = true then
      gn_X12_mostOf_1 t_items t_cap t_side t_worth (v1 + 1) t_used (upd t_in (v1).toNatClampNeg (vp_nar .boolean 0)) t_before t_far t_steps
      else none := by
  rw [gn_X12_mostOf_1, lpC_eq]
  show lpO _ (bd_X12_mostOf_1 t_items t_cap t_side t_worth v1 t_used t_in t_before t_far t_steps) = _
  unfold bd_X12_mostOf_1
  simp only [lpO_ite, lpO_bind, lpO_none, lpO_l, lpO_r]
  try rfl
theorem gq_X12_mostOf_2 (t_items : Int32) (t_cap : Nat → Int32) (t_side : Nat → Int32) (t_worth : Nat → Int32) (v1 : Int32) (t_used : Nat → Int32) (t_in : Nat → Int32) (t_before : Nat → Int32) (t_far : Nat → Int32) (t_steps : Nat → Int32) : gn_X12_mostOf_2 t_items t_cap t_side t_worth v1 t_used t_in t_before t_far t_steps =
    Option.bind (dn_X12_bestRow t_items t_before t_cap t_far t_in t_side t_steps t_used t_worth) fun q5 =>
    if q5.1 < 0 then
      some (v1, t_used, t_in, q5.2.1, q5.2.2.1, q5.2.2.2)
    else
      if inb q5.1 30 = true then
      if (q5.2.2.1 (q5.1).toNatClampNeg) < 0 then
        if inb q5.1 30 = true then
        gn_X12_mostOf_3 t_items t_cap t_side t_worth (v1 - (q5.2.2.1 (q5.1).toNatClampNeg)) q5.1 t_used t_in q5.2.1 q5.2.2.1 q5.2.2.2
        else none
      else
        some (v1, t_used, t_in, q5.2.1, q5.2.2.1, q5.2.2.2)
      else none := by
  rw [gn_X12_mostOf_2, lpC_eq]
  show lpO _ (bd_X12_mostOf_2 t_items t_cap t_side t_worth v1 t_used t_in t_before t_far t_steps) = _
  unfold bd_X12_mostOf_2
  simp only [lpO_ite, lpO_bind, lpO_none, lpO_l, lpO_r]
  try rfl
theorem gq_X12_mostOf_3 (t_items : Int32) (t_cap : Nat → Int32) (t_side : Nat → Int32) (t_worth : Nat → Int32) (v1 : Int32) (v3 : Int32) (t_used : Nat → Int32) (t_in : Nat → Int32) (t_before : Nat → Int32) (t_far : Nat → Int32) (t_steps : Nat → Int32) : gn_X12_mostOf_3 t_items t_cap t_side t_worth v1 v3 t_used t_in t_before t_far t_steps =
    if v3 < 0 then
      gn_X12_mostOf_4 t_items t_cap t_side t_worth v1 0 t_used t_in t_before t_far t_steps
    else
      if inb v3 30 = true then
      if (t_in (v3).toNatClampNeg) = 0 then
        if inb v3 30 = true then
        if inb v3 30 = true then
        gn_X12_mostOf_3 t_items t_cap t_side t_worth v1 (t_before (v3).toNatClampNeg) t_used (upd t_in (v3).toNatClampNeg (vp_nar .boolean 1)) t_before t_far t_steps
        else none
        else none
      else
        if inb v3 30 = true then
        if inb v3 30 = true then
        gn_X12_mostOf_3 t_items t_cap t_side t_worth v1 (t_before (v3).toNatClampNeg) t_used (upd t_in (v3).toNatClampNeg (vp_nar .boolean 0)) t_before t_far t_steps
        else none
        else none
      else none := by
  rw [gn_X12_mostOf_3, lpC_eq]
  show lpO _ (bd_X12_mostOf_3 t_items t_cap t_side t_worth v1 v3 t_used t_in t_before t_far t_steps) = _
  unfold bd_X12_mostOf_3
  simp only [lpO_ite, lpO_bind, lpO_none, lpO_l, lpO_r]
  try rfl
theorem gq_X12_mostOf_4 (t_items : Int32) (t_cap : Nat → Int32) (t_side : Nat → Int32) (t_worth : Nat → Int32) (v1 : Int32) (v3 : Int32) (t_used : Nat → Int32) (t_in : Nat → Int32) (t_before : Nat → Int32) (t_far : Nat → Int32) (t_steps : Nat → Int32) : gn_X12_mostOf_4 t_items t_cap t_side t_worth v1 v3 t_used t_in t_before t_far t_steps =
    if (10 : Int32) ≤ v3 then
      gn_X12_mostOf_5 t_items t_cap t_side t_worth v1 0 t_used t_in t_before t_far t_steps
    else
      if inb v3 10 = true then
      gn_X12_mostOf_4 t_items t_cap t_side t_worth v1 (v3 + 1) (upd t_used (v3).toNatClampNeg 0) t_in t_before t_far t_steps
      else none := by
  rw [gn_X12_mostOf_4, lpC_eq]
  show lpO _ (bd_X12_mostOf_4 t_items t_cap t_side t_worth v1 v3 t_used t_in t_before t_far t_steps) = _
  unfold bd_X12_mostOf_4
  simp only [lpO_ite, lpO_bind, lpO_none, lpO_l, lpO_r]
  try rfl
theorem gq_X12_mostOf_5 (t_items : Int32) (t_cap : Nat → Int32) (t_side : Nat → Int32) (t_worth : Nat → Int32) (v1 : Int32) (v3 : Int32) (t_used : Nat → Int32) (t_in : Nat → Int32) (t_before : Nat → Int32) (t_far : Nat → Int32) (t_steps : Nat → Int32) : gn_X12_mostOf_5 t_items t_cap t_side t_worth v1 v3 t_used t_in t_before t_far t_steps =
    if t_items ≤ v3 then
      gn_X12_mostOf_2 t_items t_cap t_side t_worth v1 t_used t_in t_before t_far t_steps
    else
      if inb v3 30 = true then
      if (t_in (v3).toNatClampNeg) = 0 then
        gn_X12_mostOf_5 t_items t_cap t_side t_worth v1 (v3 + 1) t_used t_in t_before t_far t_steps
      else
        if inb ((2 : Int32) * v3) 60 = true then
        if inb (t_side (((2 : Int32) * v3)).toNatClampNeg) 10 = true then
        if inb (t_side (((2 : Int32) * v3)).toNatClampNeg) 10 = true then
        if inb (((2 : Int32) * v3) + 1) 60 = true then
        if inb (t_side ((((2 : Int32) * v3) + 1)).toNatClampNeg) 10 = true then
        if inb (t_side ((((2 : Int32) * v3) + 1)).toNatClampNeg) 10 = true then
        gn_X12_mostOf_5 t_items t_cap t_side t_worth v1 (v3 + 1) (upd (upd t_used (t_side (((2 : Int32) * v3)).toNatClampNeg).toNatClampNeg ((t_used ((t_side (((2 : Int32) * v3)).toNatClampNeg)).toNatClampNeg) + 1)) (t_side ((((2 : Int32) * v3) + 1)).toNatClampNeg).toNatClampNeg (((upd t_used (t_side (((2 : Int32) * v3)).toNatClampNeg).toNatClampNeg ((t_used ((t_side (((2 : Int32) * v3)).toNatClampNeg)).toNatClampNeg) + 1)) ((t_side ((((2 : Int32) * v3) + 1)).toNatClampNeg)).toNatClampNeg) + 1)) t_in t_before t_far t_steps
        else none
        else none
        else none
        else none
        else none
        else none
      else none := by
  rw [gn_X12_mostOf_5, lpC_eq]
  show lpO _ (bd_X12_mostOf_5 t_items t_cap t_side t_worth v1 v3 t_used t_in t_before t_far t_steps) = _
  unfold bd_X12_mostOf_5
  simp only [lpO_ite, lpO_bind, lpO_none, lpO_l, lpO_r]
  try rfl
noncomputable def dn_X12_mostOf (t_items : Int32) (t_before : Nat → Int32) (t_cap : Nat → Int32) (t_far : Nat → Int32) (t_in : Nat → Int32) (t_side : Nat → Int32) (t_steps : Nat → Int32) (t_used : Nat → Int32) (t_worth : Nat → Int32) : Option (Int32 × (Nat → Int32) × (Nat → Int32) × (Nat → Int32) × (Nat → Int32) × (Nat → Int32)) :=
  gn_X12_mostOf_0 t_items t_cap t_side t_worth 0 t_used t_in t_before t_far t_steps
noncomputable def bd_X12_isFirst_0 (t_s : Nat → Int32) (p1 : Int32) (v2 : Int32) : Option (((Int32)) ⊕ (Bool)) :=
  if p1 ≤ v2 then
    some (.inr true)
  else
    Option.bind (dn_X12_of t_s v2 2) fun q2 =>
    Option.bind (dn_X12_of t_s p1 2) fun q3 =>
    if q2 = q3 then
      some (.inr false)
    else
      some (.inl (v2 + 1))
noncomputable def st_X12_isFirst (t_s : Nat → Int32) (p1 : Int32) : ((Int32)) → Option (((Int32)) ⊕ (Bool)) := fun s => match s with
  | v2 => bd_X12_isFirst_0 t_s p1 v2
noncomputable def gn_X12_isFirst_0 (t_s : Nat → Int32) (p1 : Int32) (v2 : Int32) : Option (Bool) := lpC (st_X12_isFirst t_s p1) (v2)
theorem gq_X12_isFirst_0 (t_s : Nat → Int32) (p1 : Int32) (v2 : Int32) : gn_X12_isFirst_0 t_s p1 v2 =
    if p1 ≤ v2 then
      some true
    else
      Option.bind (dn_X12_of t_s v2 2) fun q2 =>
      Option.bind (dn_X12_of t_s p1 2) fun q3 =>
      if q2 = q3 then
        some false
      else
        gn_X12_isFirst_0 t_s p1 (v2 + 1) := by
  rw [gn_X12_isFirst_0, lpC_eq]
  show lpO _ (bd_X12_isFirst_0 t_s p1 v2) = _
  unfold bd_X12_isFirst_0
  simp only [lpO_ite, lpO_bind, lpO_none, lpO_l, lpO_r]
  try rfl
noncomputable def dn_X12_isFirst (t_s : Nat → Int32) (p1 : Int32) : Option (Bool) :=
  gn_X12_isFirst_0 t_s p1 0
noncomputable def bd_X12_gainBy_0 (t_s : Nat → Int32) (p1 : Int32) (p2 : Int32) (p3 : Int32) (v4 : Int32) (t_cap : Nat → Int32) (t_items : Int32) (t_used : Nat → Int32) (t_in : Nat → Int32) (t_before : Nat → Int32) (t_far : Nat → Int32) (t_steps : Nat → Int32) (t_worth : Nat → Int32) (t_side : Nat → Int32) : Option (((Int32 × (Nat → Int32) × Int32 × (Nat → Int32) × (Nat → Int32) × (Nat → Int32) × (Nat → Int32) × (Nat → Int32) × (Nat → Int32) × (Nat → Int32)) ⊕ ((Int32 × Int32 × (Nat → Int32) × Int32 × (Nat → Int32) × (Nat → Int32) × (Nat → Int32) × (Nat → Int32) × (Nat → Int32) × (Nat → Int32) × (Nat → Int32)) ⊕ ((Int32 × Int32 × Int32 × (Nat → Int32) × Int32 × (Nat → Int32) × (Nat → Int32) × (Nat → Int32) × (Nat → Int32) × (Nat → Int32) × (Nat → Int32) × (Nat → Int32)) ⊕ ((Int32 × Int32 × Int32 × Int32 × (Nat → Int32) × Int32 × (Nat → Int32) × (Nat → Int32) × (Nat → Int32) × (Nat → Int32) × (Nat → Int32) × (Nat → Int32) × (Nat → Int32)))))) ⊕ (Int32 × (Nat → Int32) × Int32 × (Nat → Int32) × (Nat → Int32) × (Nat → Int32) × (Nat → Int32) × (Nat → Int32) × (Nat → Int32) × (Nat → Int32))) :=
  if (t_s (0 : Int32).toNatClampNeg) ≤ v4 then
    some (.inl (.inr (.inl (0, 0, t_cap, t_items, t_used, t_in, t_before, t_far, t_steps, t_worth, t_side))))
  else
    if v4 = p2 then
      if inb v4 10 = true then
      some (.inl (.inl (v4 + 1, upd t_cap (v4).toNatClampNeg p3, t_items, t_used, t_in, t_before, t_far, t_steps, t_worth, t_side)))
      else none
    else
      if inb ((24 : Int32) + v4) 284 = true then
      if inb v4 10 = true then
      some (.inl (.inl (v4 + 1, upd t_cap (v4).toNatClampNeg (t_s (((24 : Int32) + v4)).toNatClampNeg), t_items, t_used, t_in, t_before, t_far, t_steps, t_worth, t_side)))
      else none
      else none
noncomputable def bd_X12_gainBy_1 (t_s : Nat → Int32) (p1 : Int32) (p2 : Int32) (p3 : Int32) (v4 : Int32) (v5 : Int32) (t_cap : Nat → Int32) (t_items : Int32) (t_used : Nat → Int32) (t_in : Nat → Int32) (t_before : Nat → Int32) (t_far : Nat → Int32) (t_steps : Nat → Int32) (t_worth : Nat → Int32) (t_side : Nat → Int32) : Option (((Int32 × (Nat → Int32) × Int32 × (Nat → Int32) × (Nat → Int32) × (Nat → Int32) × (Nat → Int32) × (Nat → Int32) × (Nat → Int32) × (Nat → Int32)) ⊕ ((Int32 × Int32 × (Nat → Int32) × Int32 × (Nat → Int32) × (Nat → Int32) × (Nat → Int32) × (Nat → Int32) × (Nat → Int32) × (Nat → Int32) × (Nat → Int32)) ⊕ ((Int32 × Int32 × Int32 × (Nat → Int32) × Int32 × (Nat → Int32) × (Nat → Int32) × (Nat → Int32) × (Nat → Int32) × (Nat → Int32) × (Nat → Int32) × (Nat → Int32)) ⊕ ((Int32 × Int32 × Int32 × Int32 × (Nat → Int32) × Int32 × (Nat → Int32) × (Nat → Int32) × (Nat → Int32) × (Nat → Int32) × (Nat → Int32) × (Nat → Int32) × (Nat → Int32)))))) ⊕ (Int32 × (Nat → Int32) × Int32 × (Nat → Int32) × (Nat → Int32) × (Nat → Int32) × (Nat → Int32) × (Nat → Int32) × (Nat → Int32) × (Nat → Int32))) :=
  if (t_s (1 : Int32).toNatClampNeg) ≤ v5 then
    some (.inr (v4, t_cap, t_items, t_used, t_in, t_before, t_far, t_steps, t_worth, t_side))
  else
    Option.bind (dn_X12_isFirst t_s v5) fun q7 =>
    if q7 = true then
      some (.inl (.inr (.inr (.inl (v4, v5, v5, t_cap, 0, t_used, t_in, t_before, t_far, t_steps, t_worth, t_side)))))
    else
      some (.inl (.inr (.inl (v4, v5 + 1, t_cap, t_items, t_used, t_in, t_before, t_far, t_steps, t_worth, t_side))))
noncomputable def bd_X12_gainBy_2 (t_s : Nat → Int32) (p1 : Int32) (p2 : Int32) (p3 : Int32) (v4 : Int32) (v5 : Int32) (v6 : Int32) (t_cap : Nat → Int32) (t_items : Int32) (t_used : Nat → Int32) (t_in : Nat → Int32) (t_before : Nat → Int32) (t_far : Nat → Int32) (t_steps : Nat → Int32) (t_worth : Nat → Int32) (t_side : Nat → Int32) : Option (((Int32 × (Nat → Int32) × Int32 × (Nat → Int32) × (Nat → Int32) × (Nat → Int32) × (Nat → Int32) × (Nat → Int32) × (Nat → Int32) × (Nat → Int32)) ⊕ ((Int32 × Int32 × (Nat → Int32) × Int32 × (Nat → Int32) × (Nat → Int32) × (Nat → Int32) × (Nat → Int32) × (Nat → Int32) × (Nat → Int32) × (Nat → Int32)) ⊕ ((Int32 × Int32 × Int32 × (Nat → Int32) × Int32 × (Nat → Int32) × (Nat → Int32) × (Nat → Int32) × (Nat → Int32) × (Nat → Int32) × (Nat → Int32) × (Nat → Int32)) ⊕ ((Int32 × Int32 × Int32 × Int32 × (Nat → Int32) × Int32 × (Nat → Int32) × (Nat → Int32) × (Nat → Int32) × (Nat → Int32) × (Nat → Int32) × (Nat → Int32) × (Nat → Int32)))))) ⊕ (Int32 × (Nat → Int32) × Int32 × (Nat → Int32) × (Nat → Int32) × (Nat → Int32) × (Nat → Int32) × (Nat → Int32) × (Nat → Int32) × (Nat → Int32))) :=
  if (t_s (1 : Int32).toNatClampNeg) ≤ v6 then
    Option.bind (dn_X12_mostOf t_items t_before t_cap t_far t_in t_side t_steps t_used t_worth) fun q10 =>
    some (.inl (.inr (.inl (v4 + q10.1, v5 + 1, t_cap, t_items, q10.2.1, q10.2.2.1, q10.2.2.2.1, q10.2.2.2.2.1, q10.2.2.2.2.2, t_worth, t_side))))
  else
    Option.bind (dn_X12_of t_s v6 2) fun q11 =>
    Option.bind (dn_X12_of t_s v5 2) fun q12 =>
    if q11 = q12 then
      Option.bind (dn_X12_goesAs t_s v6 p1) fun q14 =>
      some (.inl (.inr (.inr (.inr ((v4, v5, v6, q14, t_cap, t_items, t_used, t_in, t_before, t_far, t_steps, t_worth, t_side))))))
    else
      some (.inl (.inr (.inr (.inr ((v4, v5, v6, 0, t_cap, t_items, t_used, t_in, t_before, t_far, t_steps, t_worth, t_side))))))
noncomputable def bd_X12_gainBy_3 (t_s : Nat → Int32) (p1 : Int32) (p2 : Int32) (p3 : Int32) (v4 : Int32) (v5 : Int32) (v6 : Int32) (k0 : Int32) (t_cap : Nat → Int32) (t_items : Int32) (t_used : Nat → Int32) (t_in : Nat → Int32) (t_before : Nat → Int32) (t_far : Nat → Int32) (t_steps : Nat → Int32) (t_worth : Nat → Int32) (t_side : Nat → Int32) : Option (((Int32 × (Nat → Int32) × Int32 × (Nat → Int32) × (Nat → Int32) × (Nat → Int32) × (Nat → Int32) × (Nat → Int32) × (Nat → Int32) × (Nat → Int32)) ⊕ ((Int32 × Int32 × (Nat → Int32) × Int32 × (Nat → Int32) × (Nat → Int32) × (Nat → Int32) × (Nat → Int32) × (Nat → Int32) × (Nat → Int32) × (Nat → Int32)) ⊕ ((Int32 × Int32 × Int32 × (Nat → Int32) × Int32 × (Nat → Int32) × (Nat → Int32) × (Nat → Int32) × (Nat → Int32) × (Nat → Int32) × (Nat → Int32) × (Nat → Int32)) ⊕ ((Int32 × Int32 × Int32 × Int32 × (Nat → Int32) × Int32 × (Nat → Int32) × (Nat → Int32) × (Nat → Int32) × (Nat → Int32) × (Nat → Int32) × (Nat → Int32) × (Nat → Int32)))))) ⊕ (Int32 × (Nat → Int32) × Int32 × (Nat → Int32) × (Nat → Int32) × (Nat → Int32) × (Nat → Int32) × (Nat → Int32) × (Nat → Int32) × (Nat → Int32))) :=
  if k0 = 0 then
    some (.inl (.inr (.inr (.inl (v4, v5, v6 + 1, t_cap, t_items, t_used, t_in, t_before, t_far, t_steps, t_worth, t_side)))))
  else
    Option.bind (dn_X12_of t_s v6 3) fun q16 =>
    Option.bind (dn_X12_of t_s v6 4) fun q17 =>
    if (q16 + q17) = 0 then
      some (.inl (.inr (.inr (.inl (v4, v5, v6 + 1, t_cap, t_items, t_used, t_in, t_before, t_far, t_steps, t_worth, t_side)))))
    else
      Option.bind (dn_X12_of t_s v6 3) fun q19 =>
      Option.bind (dn_X12_of t_s v6 4) fun q20 =>
      if inb t_items 30 = true then
      Option.bind (dn_X12_lender t_s v6 (k0 - 1)) fun q22 =>
      if inb ((2 : Int32) * t_items) 60 = true then
      Option.bind (dn_X12_borrower t_s v6 (k0 - 1)) fun q24 =>
      if inb (((2 : Int32) * t_items) + 1) 60 = true then
      some (.inl (.inr (.inr (.inl (v4, v5, v6 + 1, t_cap, t_items + 1, t_used, t_in, t_before, t_far, t_steps, upd t_worth (t_items).toNatClampNeg (q19 + q20), upd (upd t_side ((2 : Int32) * t_items).toNatClampNeg q22) (((2 : Int32) * t_items) + 1).toNatClampNeg q24)))))
      else none
      else none
      else none
noncomputable def st_X12_gainBy (t_s : Nat → Int32) (p1 : Int32) (p2 : Int32) (p3 : Int32) : ((Int32 × (Nat → Int32) × Int32 × (Nat → Int32) × (Nat → Int32) × (Nat → Int32) × (Nat → Int32) × (Nat → Int32) × (Nat → Int32) × (Nat → Int32)) ⊕ ((Int32 × Int32 × (Nat → Int32) × Int32 × (Nat → Int32) × (Nat → Int32) × (Nat → Int32) × (Nat → Int32) × (Nat → Int32) × (Nat → Int32) × (Nat → Int32)) ⊕ ((Int32 × Int32 × Int32 × (Nat → Int32) × Int32 × (Nat → Int32) × (Nat → Int32) × (Nat → Int32) × (Nat → Int32) × (Nat → Int32) × (Nat → Int32) × (Nat → Int32)) ⊕ ((Int32 × Int32 × Int32 × Int32 × (Nat → Int32) × Int32 × (Nat → Int32) × (Nat → Int32) × (Nat → Int32) × (Nat → Int32) × (Nat → Int32) × (Nat → Int32) × (Nat → Int32)))))) → Option (((Int32 × (Nat → Int32) × Int32 × (Nat → Int32) × (Nat → Int32) × (Nat → Int32) × (Nat → Int32) × (Nat → Int32) × (Nat → Int32) × (Nat → Int32)) ⊕ ((Int32 × Int32 × (Nat → Int32) × Int32 × (Nat → Int32) × (Nat → Int32) × (Nat → Int32) × (Nat → Int32) × (Nat → Int32) × (Nat → Int32) × (Nat → Int32)) ⊕ ((Int32 × Int32 × Int32 × (Nat → Int32) × Int32 × (Nat → Int32) × (Nat → Int32) × (Nat → Int32) × (Nat → Int32) × (Nat → Int32) × (Nat → Int32) × (Nat → Int32)) ⊕ ((Int32 × Int32 × Int32 × Int32 × (Nat → Int32) × Int32 × (Nat → Int32) × (Nat → Int32) × (Nat → Int32) × (Nat → Int32) × (Nat → Int32) × (Nat → Int32) × (Nat → Int32)))))) ⊕ (Int32 × (Nat → Int32) × Int32 × (Nat → Int32) × (Nat → Int32) × (Nat → Int32) × (Nat → Int32) × (Nat → Int32) × (Nat → Int32) × (Nat → Int32))) := fun s => match s with
  | .inl (v4, t_cap, t_items, t_used, t_in, t_before, t_far, t_steps, t_worth, t_side) => bd_X12_gainBy_0 t_s p1 p2 p3 v4 t_cap t_items t_used t_in t_before t_far t_steps t_worth t_side
  | .inr (.inl (v4, v5, t_cap, t_items, t_used, t_in, t_before, t_far, t_steps, t_worth, t_side)) => bd_X12_gainBy_1 t_s p1 p2 p3 v4 v5 t_cap t_items t_used t_in t_before t_far t_steps t_worth t_side
  | .inr (.inr (.inl (v4, v5, v6, t_cap, t_items, t_used, t_in, t_before, t_far, t_steps, t_worth, t_side))) => bd_X12_gainBy_2 t_s p1 p2 p3 v4 v5 v6 t_cap t_items t_used t_in t_before t_far t_steps t_worth t_side
  | .inr (.inr (.inr ((v4, v5, v6, k0, t_cap, t_items, t_used, t_in, t_before, t_far, t_steps, t_worth, t_side)))) => bd_X12_gainBy_3 t_s p1 p2 p3 v4 v5 v6 k0 t_cap t_items t_used t_in t_before t_far t_steps t_worth t_side
noncomputable def gn_X12_gainBy_0 (t_s : Nat → Int32) (p1 : Int32) (p2 : Int32) (p3 : Int32) (v4 : Int32) (t_cap : Nat → Int32) (t_items : Int32) (t_used : Nat → Int32) (t_in : Nat → Int32) (t_before : Nat → Int32) (t_far : Nat → Int32) (t_steps : Nat → Int32) (t_worth : Nat → Int32) (t_side : Nat → Int32) : Option (Int32 × (Nat → Int32) × Int32 × (Nat → Int32) × (Nat → Int32) × (Nat → Int32) × (Nat → Int32) × (Nat → Int32) × (Nat → Int32) × (Nat → Int32)) := lpC (st_X12_gainBy t_s p1 p2 p3) (.inl (v4, t_cap, t_items, t_used, t_in, t_before, t_far, t_steps, t_worth, t_side))
noncomputable def gn_X12_gainBy_1 (t_s : Nat → Int32) (p1 : Int32) (p2 : Int32) (p3 : Int32) (v4 : Int32) (v5 : Int32) (t_cap : Nat → Int32) (t_items : Int32) (t_used : Nat → Int32) (t_in : Nat → Int32) (t_before : Nat → Int32) (t_far : Nat → Int32) (t_steps : Nat → Int32) (t_worth : Nat → Int32) (t_side : Nat → Int32) : Option (Int32 × (Nat → Int32) × Int32 × (Nat → Int32) × (Nat → Int32) × (Nat → Int32) × (Nat → Int32) × (Nat → Int32) × (Nat → Int32) × (Nat → Int32)) := lpC (st_X12_gainBy t_s p1 p2 p3) (.inr (.inl (v4, v5, t_cap, t_items, t_used, t_in, t_before, t_far, t_steps, t_worth, t_side)))
noncomputable def gn_X12_gainBy_2 (t_s : Nat → Int32) (p1 : Int32) (p2 : Int32) (p3 : Int32) (v4 : Int32) (v5 : Int32) (v6 : Int32) (t_cap : Nat → Int32) (t_items : Int32) (t_used : Nat → Int32) (t_in : Nat → Int32) (t_before : Nat → Int32) (t_far : Nat → Int32) (t_steps : Nat → Int32) (t_worth : Nat → Int32) (t_side : Nat → Int32) : Option (Int32 × (Nat → Int32) × Int32 × (Nat → Int32) × (Nat → Int32) × (Nat → Int32) × (Nat → Int32) × (Nat → Int32) × (Nat → Int32) × (Nat → Int32)) := lpC (st_X12_gainBy t_s p1 p2 p3) (.inr (.inr (.inl (v4, v5, v6, t_cap, t_items, t_used, t_in, t_before, t_far, t_steps, t_worth, t_side))))
noncomputable def gn_X12_gainBy_3 (t_s : Nat → Int32) (p1 : Int32) (p2 : Int32) (p3 : Int32) (v4 : Int32) (v5 : Int32) (v6 : Int32) (k0 : Int32) (t_cap : Nat → Int32) (t_items : Int32) (t_used : Nat → Int32) (t_in : Nat → Int32) (t_before : Nat → Int32) (t_far : Nat → Int32) (t_steps : Nat → Int32) (t_worth : Nat → Int32) (t_side : Nat → Int32) : Option (Int32 × (Nat → Int32) × Int32 × (Nat → Int32) × (Nat → Int32) × (Nat → Int32) × (Nat → Int32) × (Nat → Int32) × (Nat → Int32) × (Nat → Int32)) := lpC (st_X12_gainBy t_s p1 p2 p3) (.inr (.inr (.inr ((v4, v5, v6, k0, t_cap, t_items, t_used, t_in, t_before, t_far, t_steps, t_worth, t_side)))))
theorem gq_X12_gainBy_0 (t_s : Nat → Int32) (p1 : Int32) (p2 : Int32) (p3 : Int32) (v4 : Int32) (t_cap : Nat → Int32) (t_items : Int32) (t_used : Nat → Int32) (t_in : Nat → Int32) (t_before : Nat → Int32) (t_far : Nat → Int32) (t_steps : Nat → Int32) (t_worth : Nat → Int32) (t_side : Nat → Int32) : gn_X12_gainBy_0 t_s p1 p2 p3 v4 t_cap t_items t_used t_in t_before t_far t_steps t_worth t_side =
    if (t_s (0 : Int32).toNatClampNeg) ≤ v4 then
      gn_X12_gainBy_1 t_s p1 p2 p3 0 0 t_cap t_items t_used t_in t_before t_far t_steps t_worth t_side
    else
      if v4 = p2 then
        if inb v4 10 = true then
        gn_X12_gainBy_0 t_s p1 p2 p3 (v4 + 1) (upd t_cap (v4).toNatClampNeg p3) t_items t_used t_in t_before t_far t_steps t_worth t_side
        else none
      else
        if inb ((24 : Int32) + v4) 284 = true then
        if inb v4 10 = true then
        gn_X12_gainBy_0 t_s p1 p2 p3 (v4 + 1) (upd t_cap (v4).toNatClampNeg (t_s (((24 : Int32) + v4)).toNatClampNeg)) t_items t_used t_in t_before t_far t_steps t_worth t_side
        else none
        else none := by
  rw [gn_X12_gainBy_0, lpC_eq]
  show lpO _ (bd_X12_gainBy_0 t_s p1 p2 p3 v4 t_cap t_items t_used t_in t_before t_far t_steps t_worth t_side) = _
  unfold bd_X12_gainBy_0
  simp only [lpO_ite, lpO_bind, lpO_none, lpO_l, lpO_r]
  try rfl
theorem gq_X12_gainBy_1 (t_s : Nat → Int32) (p1 : Int32) (p2 : Int32) (p3 : Int32) (v4 : Int32) (v5 : Int32) (t_cap : Nat → Int32) (t_items : Int32) (t_used : Nat → Int32) (t_in : Nat → Int32) (t_before : Nat → Int32) (t_far : Nat → Int32) (t_steps : Nat → Int32) (t_worth : Nat → Int32) (t_side : Nat → Int32) : gn_X12_gainBy_1 t_s p1 p2 p3 v4 v5 t_cap t_items t_used t_in t_before t_far t_steps t_worth t_side =
    if (t_s (1 : Int32).toNatClampNeg) ≤ v5 then
      some (v4, t_cap, t_items, t_used, t_in, t_before, t_far, t_steps, t_worth, t_side)
    else
      Option.bind (dn_X12_isFirst t_s v5) fun q7 =>
      if q7 = true then
        gn_X12_gainBy_2 t_s p1 p2 p3 v4 v5 v5 t_cap 0 t_used t_in t_before t_far t_steps t_worth t_side
      else
        gn_X12_gainBy_1 t_s p1 p2 p3 v4 (v5 + 1) t_cap t_items t_used t_in t_before t_far t_steps t_worth t_side := by
  rw [gn_X12_gainBy_1, lpC_eq]
  show lpO _ (bd_X12_gainBy_1 t_s p1 p2 p3 v4 v5 t_cap t_items t_used t_in t_before t_far t_steps t_worth t_side) = _
  unfold bd_X12_gainBy_1
  simp only [lpO_ite, lpO_bind, lpO_none, lpO_l, lpO_r]
  try rfl
theorem gq_X12_gainBy_2 (t_s : Nat → Int32) (p1 : Int32) (p2 : Int32) (p3 : Int32) (v4 : Int32) (v5 : Int32) (v6 : Int32) (t_cap : Nat → Int32) (t_items : Int32) (t_used : Nat → Int32) (t_in : Nat → Int32) (t_before : Nat → Int32) (t_far : Nat → Int32) (t_steps : Nat → Int32) (t_worth : Nat → Int32) (t_side : Nat → Int32) : gn_X12_gainBy_2 t_s p1 p2 p3 v4 v5 v6 t_cap t_items t_used t_in t_before t_far t_steps t_worth t_side =
    if (t_s (1 : Int32).toNatClampNeg) ≤ v6 then
      Option.bind (dn_X12_mostOf t_items t_before t_cap t_far t_in t_side t_steps t_used t_worth) fun q10 =>
      gn_X12_gainBy_1 t_s p1 p2 p3 (v4 + q10.1) (v5 + 1) t_cap t_items q10.2.1 q10.2.2.1 q10.2.2.2.1 q10.2.2.2.2.1 q10.2.2.2.2.2 t_worth t_side
    else
      Option.bind (dn_X12_of t_s v6 2) fun q11 =>
      Option.bind (dn_X12_of t_s v5 2) fun q12 =>
      if q11 = q12 then
        Option.bind (dn_X12_goesAs t_s v6 p1) fun q14 =>
        gn_X12_gainBy_3 t_s p1 p2 p3 v4 v5 v6 q14 t_cap t_items t_used t_in t_before t_far t_steps t_worth t_side
      else
        gn_X12_gainBy_3 t_s p1 p2 p3 v4 v5 v6 0 t_cap t_items t_used t_in t_before t_far t_steps t_worth t_side := by
  rw [gn_X12_gainBy_2, lpC_eq]
  show lpO _ (bd_X12_gainBy_2 t_s p1 p2 p3 v4 v5 v6 t_cap t_items t_used t_in t_before t_far t_steps t_worth t_side) = _
  unfold bd_X12_gainBy_2
  simp only [lpO_ite, lpO_bind, lpO_none, lpO_l, lpO_r]
  try rfl
theorem gq_X12_gainBy_3 (t_s : Nat → Int32) (p1 : Int32) (p2 : Int32) (p3 : Int32) (v4 : Int32) (v5 : Int32) (v6 : Int32) (k0 : Int32) (t_cap : Nat → Int32) (t_items : Int32) (t_used : Nat → Int32) (t_in : Nat → Int32) (t_before : Nat → Int32) (t_far : Nat → Int32) (t_steps : Nat → Int32) (t_worth : Nat → Int32) (t_side : Nat → Int32) : gn_X12_gainBy_3 t_s p1 p2 p3 v4 v5 v6 k0 t_cap t_items t_used t_in t_before t_far t_steps t_worth t_side =
    if k0 = 0 then
      gn_X12_gainBy_2 t_s p1 p2 p3 v4 v5 (v6 + 1) t_cap t_items t_used t_in t_before t_far t_steps t_worth t_side
    else
      Option.bind (dn_X12_of t_s v6 3) fun q16 =>
      Option.bind (dn_X12_of t_s v6 4) fun q17 =>
      if (q16 + q17) = 0 then
        gn_X12_gainBy_2 t_s p1 p2 p3 v4 v5 (v6 + 1) t_cap t_items t_used t_in t_before t_far t_steps t_worth t_side
      else
        Option.bind (dn_X12_of t_s v6 3) fun q19 =>
        Option.bind (dn_X12_of t_s v6 4) fun q20 =>
        if inb t_items 30 = true then
        Option.bind (dn_X12_lender t_s v6 (k0 - 1)) fun q22 =>
        if inb ((2 : Int32) * t_items) 60 = true then
        Option.bind (dn_X12_borrower t_s v6 (k0 - 1)) fun q24 =>
        if inb (((2 : Int32) * t_items) + 1) 60 = true then
        gn_X12_gainBy_2 t_s p1 p2 p3 v4 v5 (v6 + 1) t_cap (t_items + 1) t_used t_in t_before t_far t_steps (upd t_worth (t_items).toNatClampNeg (q19 + q20)) (upd (upd t_side ((2 : Int32) * t_items).toNatClampNeg q22) (((2 : Int32) * t_items) + 1).toNatClampNeg q24)
        else none
        else none
        else none := by
  rw [gn_X12_gainBy_3, lpC_eq]
  show lpO _ (bd_X12_gainBy_3 t_s p1 p2 p3 v4 v5 v6 k0 t_cap t_items t_used t_in t_before t_far t_steps t_worth t_side) = _
  unfold bd_X12_gainBy_3
  simp only [lpO_ite, lpO_bind, lpO_none, lpO_l, lpO_r]
  try rfl
noncomputable def dn_X12_gainBy (t_items : Int32) (t_before : Nat → Int32) (t_cap : Nat → Int32) (t_far : Nat → Int32) (t_in : Nat → Int32) (t_s : Nat → Int32) (t_side : Nat → Int32) (t_steps : Nat → Int32) (t_used : Nat → Int32) (t_worth : Nat → Int32) (p1 : Int32) (p2 : Int32) (p3 : Int32) : Option (Int32 × (Nat → Int32) × Int32 × (Nat → Int32) × (Nat → Int32) × (Nat → Int32) × (Nat → Int32) × (Nat → Int32) × (Nat → Int32) × (Nat → Int32)) :=
  gn_X12_gainBy_0 t_s p1 p2 p3 0 t_cap t_items t_used t_in t_before t_far t_steps t_worth t_side
noncomputable def bd_X12_settle_0 (t_s : Nat → Int32) (v1 : Int32) (t_stale : Int32) (t_cap : Nat → Int32) (t_items : Int32) (t_used : Nat → Int32) (t_in : Nat → Int32) (t_before : Nat → Int32) (t_far : Nat → Int32) (t_steps : Nat → Int32) (t_worth : Nat → Int32) (t_side : Nat → Int32) (t_gains : Nat → Int32) : Option (((Int32 × Int32 × (Nat → Int32) × Int32 × (Nat → Int32) × (Nat → Int32) × (Nat → Int32) × (Nat → Int32) × (Nat → Int32) × (Nat → Int32) × (Nat → Int32) × (Nat → Int32))) ⊕ (Int32 × (Nat → Int32) × Int32 × (Nat → Int32) × (Nat → Int32) × (Nat → Int32) × (Nat → Int32) × (Nat → Int32) × (Nat → Int32) × (Nat → Int32) × (Nat → Int32))) :=
  if ((1 : Int32) <<< ((t_s (0 : Int32).toNatClampNeg) &&& 31)) ≤ v1 then
    some (.inr (t_stale, t_cap, t_items, t_used, t_in, t_before, t_far, t_steps, t_worth, t_side, t_gains))
  else
    Option.bind (dn_X12_gainBy t_items t_before t_cap t_far t_in t_s t_side t_steps t_used t_worth v1 (-1) 0) fun q3 =>
    if inb v1 1024 = true then
    some (.inl (v1 + 1, t_stale, q3.2.1, q3.2.2.1, q3.2.2.2.1, q3.2.2.2.2.1, q3.2.2.2.2.2.1, q3.2.2.2.2.2.2.1, q3.2.2.2.2.2.2.2.1, q3.2.2.2.2.2.2.2.2.1, q3.2.2.2.2.2.2.2.2.2, upd t_gains (v1).toNatClampNeg q3.1))
    else none
noncomputable def st_X12_settle (t_s : Nat → Int32) : ((Int32 × Int32 × (Nat → Int32) × Int32 × (Nat → Int32) × (Nat → Int32) × (Nat → Int32) × (Nat → Int32) × (Nat → Int32) × (Nat → Int32) × (Nat → Int32) × (Nat → Int32))) → Option (((Int32 × Int32 × (Nat → Int32) × Int32 × (Nat → Int32) × (Nat → Int32) × (Nat → Int32) × (Nat → Int32) × (Nat → Int32) × (Nat → Int32) × (Nat → Int32) × (Nat → Int32))) ⊕ (Int32 × (Nat → Int32) × Int32 × (Nat → Int32) × (Nat → Int32) × (Nat → Int32) × (Nat → Int32) × (Nat → Int32) × (Nat → Int32) × (Nat → Int32) × (Nat → Int32))) := fun s => match s with
  | (v1, t_stale, t_cap, t_items, t_used, t_in, t_before, t_far, t_steps, t_worth, t_side, t_gains) => bd_X12_settle_0 t_s v1 t_stale t_cap t_items t_used t_in t_before t_far t_steps t_worth t_side t_gains
noncomputable def gn_X12_settle_0 (t_s : Nat → Int32) (v1 : Int32) (t_stale : Int32) (t_cap : Nat → Int32) (t_items : Int32) (t_used : Nat → Int32) (t_in : Nat → Int32) (t_before : Nat → Int32) (t_far : Nat → Int32) (t_steps : Nat → Int32) (t_worth : Nat → Int32) (t_side : Nat → Int32) (t_gains : Nat → Int32) : Option (Int32 × (Nat → Int32) × Int32 × (Nat → Int32) × (Nat → Int32) × (Nat → Int32) × (Nat → Int32) × (Nat → Int32) × (Nat → Int32) × (Nat → Int32) × (Nat → Int32)) := lpC (st_X12_settle t_s) ((v1, t_stale, t_cap, t_items, t_used, t_in, t_before, t_far, t_steps, t_worth, t_side, t_gains))
theorem gq_X12_settle_0 (t_s : Nat → Int32) (v1 : Int32) (t_stale : Int32) (t_cap : Nat → Int32) (t_items : Int32) (t_used : Nat → Int32) (t_in : Nat → Int32) (t_before : Nat → Int32) (t_far : Nat → Int32) (t_steps : Nat → Int32) (t_worth : Nat → Int32) (t_side : Nat → Int32) (t_gains : Nat → Int32) : gn_X12_settle_0 t_s v1 t_stale t_cap t_items t_used t_in t_before t_far t_steps t_worth t_side t_gains =
    if ((1 : Int32) <<< ((t_s (0 : Int32).toNatClampNeg) &&& 31)) ≤ v1 then
      some (t_stale, t_cap, t_items, t_used, t_in, t_before, t_far, t_steps, t_worth, t_side, t_gains)
    else
      Option.bind (dn_X12_gainBy t_items t_before t_cap t_far t_in t_s t_side t_steps t_used t_worth v1 (-1) 0) fun q3 =>
      if inb v1 1024 = true then
      gn_X12_settle_0 t_s (v1 + 1) t_stale q3.2.1 q3.2.2.1 q3.2.2.2.1 q3.2.2.2.2.1 q3.2.2.2.2.2.1 q3.2.2.2.2.2.2.1 q3.2.2.2.2.2.2.2.1 q3.2.2.2.2.2.2.2.2.1 q3.2.2.2.2.2.2.2.2.2 (upd t_gains (v1).toNatClampNeg q3.1)
      else none := by
  rw [gn_X12_settle_0, lpC_eq]
  show lpO _ (bd_X12_settle_0 t_s v1 t_stale t_cap t_items t_used t_in t_before t_far t_steps t_worth t_side t_gains) = _
  unfold bd_X12_settle_0
  simp only [lpO_ite, lpO_bind, lpO_none, lpO_l, lpO_r]
  try rfl
noncomputable def dn_X12_settle (t_items : Int32) (t_stale : Int32) (t_before : Nat → Int32) (t_cap : Nat → Int32) (t_far : Nat → Int32) (t_gains : Nat → Int32) (t_in : Nat → Int32) (t_s : Nat → Int32) (t_side : Nat → Int32) (t_steps : Nat → Int32) (t_used : Nat → Int32) (t_worth : Nat → Int32) : Option (Int32 × (Nat → Int32) × Int32 × (Nat → Int32) × (Nat → Int32) × (Nat → Int32) × (Nat → Int32) × (Nat → Int32) × (Nat → Int32) × (Nat → Int32) × (Nat → Int32)) :=
  if t_stale = 0 then
    some (t_stale, t_cap, t_items, t_used, t_in, t_before, t_far, t_steps, t_worth, t_side, t_gains)
  else
    gn_X12_settle_0 t_s 0 0 t_cap t_items t_used t_in t_before t_far t_steps t_worth t_side t_gains
noncomputable def dn_X12_gain (t_items : Int32) (t_before : Nat → Int32) (t_cap : Nat → Int32) (t_far : Nat → Int32) (t_in : Nat → Int32) (t_s : Nat → Int32) (t_side : Nat → Int32) (t_steps : Nat → Int32) (t_used : Nat → Int32) (t_worth : Nat → Int32) (p1 : Int32) : Option (Int32 × Int32 × (Nat → Int32) × Int32 × (Nat → Int32) × (Nat → Int32) × (Nat → Int32) × (Nat → Int32) × (Nat → Int32) × (Nat → Int32) × (Nat → Int32)) :=
  Option.bind (dn_X12_isParts t_s p1) fun q1 =>
  if q1 = true then
    Option.bind (dn_X12_gainBy t_items t_before t_cap t_far t_in t_s t_side t_steps t_used t_worth p1 (-1) 0) fun q3 =>
    some (q3.1, 0, q3.2.1, q3.2.2.1, q3.2.2.2.1, q3.2.2.2.2.1, q3.2.2.2.2.2.1, q3.2.2.2.2.2.2.1, q3.2.2.2.2.2.2.2.1, q3.2.2.2.2.2.2.2.2.1, q3.2.2.2.2.2.2.2.2.2)
  else
    some ((-1), 0, t_cap, t_items, t_used, t_in, t_before, t_far, t_steps, t_worth, t_side)
noncomputable def bd_X12_bestOf_0 (t_s : Nat → Int32) (v1 : Int32) (v2 : Int32) (t_stale : Int32) (t_cap : Nat → Int32) (t_items : Int32) (t_used : Nat → Int32) (t_in : Nat → Int32) (t_before : Nat → Int32) (t_far : Nat → Int32) (t_steps : Nat → Int32) (t_worth : Nat → Int32) (t_side : Nat → Int32) (t_gains : Nat → Int32) : Option (((Int32 × Int32 × Int32 × (Nat → Int32) × Int32 × (Nat → Int32) × (Nat → Int32) × (Nat → Int32) × (Nat → Int32) × (Nat → Int32) × (Nat → Int32) × (Nat → Int32) × (Nat → Int32))) ⊕ (Int32 × Int32 × (Nat → Int32) × Int32 × (Nat → Int32) × (Nat → Int32) × (Nat → Int32) × (Nat → Int32) × (Nat → Int32) × (Nat → Int32) × (Nat → Int32) × (Nat → Int32))) :=
  if ((1 : Int32) <<< ((t_s (0 : Int32).toNatClampNeg) &&& 31)) ≤ v2 then
    some (.inr (v1, t_stale, t_cap, t_items, t_used, t_in, t_before, t_far, t_steps, t_worth, t_side, t_gains))
  else
    if inb v2 1024 = true then
    if inb v1 1024 = true then
    if (t_gains (v2).toNatClampNeg) ≤ (t_gains (v1).toNatClampNeg) then
      some (.inl (v1, v2 + 1, t_stale, t_cap, t_items, t_used, t_in, t_before, t_far, t_steps, t_worth, t_side, t_gains))
    else
      some (.inl (v2, v2 + 1, t_stale, t_cap, t_items, t_used, t_in, t_before, t_far, t_steps, t_worth, t_side, t_gains))
    else none
    else none
noncomputable def st_X12_bestOf (t_s : Nat → Int32) : ((Int32 × Int32 × Int32 × (Nat → Int32) × Int32 × (Nat → Int32) × (Nat → Int32) × (Nat → Int32) × (Nat → Int32) × (Nat → Int32) × (Nat → Int32) × (Nat → Int32) × (Nat → Int32))) → Option (((Int32 × Int32 × Int32 × (Nat → Int32) × Int32 × (Nat → Int32) × (Nat → Int32) × (Nat → Int32) × (Nat → Int32) × (Nat → Int32) × (Nat → Int32) × (Nat → Int32) × (Nat → Int32))) ⊕ (Int32 × Int32 × (Nat → Int32) × Int32 × (Nat → Int32) × (Nat → Int32) × (Nat → Int32) × (Nat → Int32) × (Nat → Int32) × (Nat → Int32) × (Nat → Int32) × (Nat → Int32))) := fun s => match s with
  | (v1, v2, t_stale, t_cap, t_items, t_used, t_in, t_before, t_far, t_steps, t_worth, t_side, t_gains) => bd_X12_bestOf_0 t_s v1 v2 t_stale t_cap t_items t_used t_in t_before t_far t_steps t_worth t_side t_gains
noncomputable def gn_X12_bestOf_0 (t_s : Nat → Int32) (v1 : Int32) (v2 : Int32) (t_stale : Int32) (t_cap : Nat → Int32) (t_items : Int32) (t_used : Nat → Int32) (t_in : Nat → Int32) (t_before : Nat → Int32) (t_far : Nat → Int32) (t_steps : Nat → Int32) (t_worth : Nat → Int32) (t_side : Nat → Int32) (t_gains : Nat → Int32) : Option (Int32 × Int32 × (Nat → Int32) × Int32 × (Nat → Int32) × (Nat → Int32) × (Nat → Int32) × (Nat → Int32) × (Nat → Int32) × (Nat → Int32) × (Nat → Int32) × (Nat → Int32)) := lpC (st_X12_bestOf t_s) ((v1, v2, t_stale, t_cap, t_items, t_used, t_in, t_before, t_far, t_steps, t_worth, t_side, t_gains))
theorem gq_X12_bestOf_0 (t_s : Nat → Int32) (v1 : Int32) (v2 : Int32) (t_stale : Int32) (t_cap : Nat → Int32) (t_items : Int32) (t_used : Nat → Int32) (t_in : Nat → Int32) (t_before : Nat → Int32) (t_far : Nat → Int32) (t_steps : Nat → Int32) (t_worth : Nat → Int32) (t_side : Nat → Int32) (t_gains : Nat → Int32) : gn_X12_bestOf_0 t_s v1 v2 t_stale t_cap t_items t_used t_in t_before t_far t_steps t_worth t_side t_gains =
    if ((1 : Int32) <<< ((t_s (0 : Int32).toNatClampNeg) &&& 31)) ≤ v2 then
      some (v1, t_stale, t_cap, t_items, t_used, t_in, t_before, t_far, t_steps, t_worth, t_side, t_gains)
    else
      if inb v2 1024 = true then
      if inb v1 1024 = true then
      if (t_gains (v2).toNatClampNeg) ≤ (t_gains (v1).toNatClampNeg) then
        gn_X12_bestOf_0 t_s v1 (v2 + 1) t_stale t_cap t_items t_used t_in t_before t_far t_steps t_worth t_side t_gains
      else
        gn_X12_bestOf_0 t_s v2 (v2 + 1) t_stale t_cap t_items t_used t_in t_before t_far t_steps t_worth t_side t_gains
      else none
      else none := by
  rw [gn_X12_bestOf_0, lpC_eq]
  show lpO _ (bd_X12_bestOf_0 t_s v1 v2 t_stale t_cap t_items t_used t_in t_before t_far t_steps t_worth t_side t_gains) = _
  unfold bd_X12_bestOf_0
  simp only [lpO_ite, lpO_bind, lpO_none, lpO_l, lpO_r]
  try rfl
noncomputable def dn_X12_bestOf (t_items : Int32) (t_stale : Int32) (t_before : Nat → Int32) (t_cap : Nat → Int32) (t_far : Nat → Int32) (t_gains : Nat → Int32) (t_in : Nat → Int32) (t_s : Nat → Int32) (t_side : Nat → Int32) (t_steps : Nat → Int32) (t_used : Nat → Int32) (t_worth : Nat → Int32) : Option (Int32 × Int32 × (Nat → Int32) × Int32 × (Nat → Int32) × (Nat → Int32) × (Nat → Int32) × (Nat → Int32) × (Nat → Int32) × (Nat → Int32) × (Nat → Int32) × (Nat → Int32)) :=
  Option.bind (dn_X12_settle t_items t_stale t_before t_cap t_far t_gains t_in t_s t_side t_steps t_used t_worth) fun q1 =>
  gn_X12_bestOf_0 t_s 0 1 q1.1 q1.2.1 q1.2.2.1 q1.2.2.2.1 q1.2.2.2.2.1 q1.2.2.2.2.2.1 q1.2.2.2.2.2.2.1 q1.2.2.2.2.2.2.2.1 q1.2.2.2.2.2.2.2.2.1 q1.2.2.2.2.2.2.2.2.2.1 q1.2.2.2.2.2.2.2.2.2.2
noncomputable def dn_X12_best (t_items : Int32) (t_stale : Int32) (t_before : Nat → Int32) (t_cap : Nat → Int32) (t_far : Nat → Int32) (t_gains : Nat → Int32) (t_in : Nat → Int32) (t_s : Nat → Int32) (t_side : Nat → Int32) (t_steps : Nat → Int32) (t_used : Nat → Int32) (t_worth : Nat → Int32) : Option (Int32 × Int32 × Int32 × (Nat → Int32) × Int32 × (Nat → Int32) × (Nat → Int32) × (Nat → Int32) × (Nat → Int32) × (Nat → Int32) × (Nat → Int32) × (Nat → Int32) × (Nat → Int32)) :=
  Option.bind (dn_X12_bestOf t_items t_stale t_before t_cap t_far t_gains t_in t_s t_side t_steps t_used t_worth) fun q1 =>
  if inb q1.1 1024 = true then
  some (q1.2.2.2.2.2.2.2.2.2.2.2 (q1.1).toNatClampNeg, 0, q1.2.1, q1.2.2.1, q1.2.2.2.1, q1.2.2.2.2.1, q1.2.2.2.2.2.1, q1.2.2.2.2.2.2.1, q1.2.2.2.2.2.2.2.1, q1.2.2.2.2.2.2.2.2.1, q1.2.2.2.2.2.2.2.2.2.1, q1.2.2.2.2.2.2.2.2.2.2.1, q1.2.2.2.2.2.2.2.2.2.2.2)
  else none
noncomputable def dn_X12_bestParts (t_items : Int32) (t_stale : Int32) (t_before : Nat → Int32) (t_cap : Nat → Int32) (t_far : Nat → Int32) (t_gains : Nat → Int32) (t_in : Nat → Int32) (t_s : Nat → Int32) (t_side : Nat → Int32) (t_steps : Nat → Int32) (t_used : Nat → Int32) (t_worth : Nat → Int32) : Option (Int32 × Int32 × Int32 × (Nat → Int32) × Int32 × (Nat → Int32) × (Nat → Int32) × (Nat → Int32) × (Nat → Int32) × (Nat → Int32) × (Nat → Int32) × (Nat → Int32) × (Nat → Int32)) :=
  Option.bind (dn_X12_bestOf t_items t_stale t_before t_cap t_far t_gains t_in t_s t_side t_steps t_used t_worth) fun q1 =>
  some (q1.1, 0, q1.2.1, q1.2.2.1, q1.2.2.2.1, q1.2.2.2.2.1, q1.2.2.2.2.2.1, q1.2.2.2.2.2.2.1, q1.2.2.2.2.2.2.2.1, q1.2.2.2.2.2.2.2.2.1, q1.2.2.2.2.2.2.2.2.2.1, q1.2.2.2.2.2.2.2.2.2.2.1, q1.2.2.2.2.2.2.2.2.2.2.2)
noncomputable def bd_X12_goes_0 (t_s : Nat → Int32) (p1 : Int32) (v2 : Int32) (v3 : Int32) (t_thrown : Int32) : Option (((Int32 × Int32 × Int32)) ⊕ (Int32 × Int32)) :=
  if (t_s (1 : Int32).toNatClampNeg) ≤ v3 then
    some (.inr (v2, t_thrown))
  else
    Option.bind (dn_X12_goesAs t_s v3 p1) fun q4 =>
    if q4 ≤ 0 then
      some (.inl (v2 ||| 0, v3 + 1, t_thrown))
    else
      some (.inl (v2 ||| ((1 : Int32) <<< (v3 &&& 31)), v3 + 1, t_thrown))
noncomputable def st_X12_goes (t_s : Nat → Int32) (p1 : Int32) : ((Int32 × Int32 × Int32)) → Option (((Int32 × Int32 × Int32)) ⊕ (Int32 × Int32)) := fun s => match s with
  | (v2, v3, t_thrown) => bd_X12_goes_0 t_s p1 v2 v3 t_thrown
noncomputable def gn_X12_goes_0 (t_s : Nat → Int32) (p1 : Int32) (v2 : Int32) (v3 : Int32) (t_thrown : Int32) : Option (Int32 × Int32) := lpC (st_X12_goes t_s p1) ((v2, v3, t_thrown))
theorem gq_X12_goes_0 (t_s : Nat → Int32) (p1 : Int32) (v2 : Int32) (v3 : Int32) (t_thrown : Int32) : gn_X12_goes_0 t_s p1 v2 v3 t_thrown =
    if (t_s (1 : Int32).toNatClampNeg) ≤ v3 then
      some (v2, t_thrown)
    else
      Option.bind (dn_X12_goesAs t_s v3 p1) fun q4 =>
      if q4 ≤ 0 then
        gn_X12_goes_0 t_s p1 (v2 ||| 0) (v3 + 1) t_thrown
      else
        gn_X12_goes_0 t_s p1 (v2 ||| ((1 : Int32) <<< (v3 &&& 31))) (v3 + 1) t_thrown := by
  rw [gn_X12_goes_0, lpC_eq]
  show lpO _ (bd_X12_goes_0 t_s p1 v2 v3 t_thrown) = _
  unfold bd_X12_goes_0
  simp only [lpO_ite, lpO_bind, lpO_none, lpO_l, lpO_r]
  try rfl
noncomputable def dn_X12_goes (t_s : Nat → Int32) (p1 : Int32) : Option (Int32 × Int32) :=
  Option.bind (dn_X12_isParts t_s p1) fun q1 =>
  if q1 = true then
    gn_X12_goes_0 t_s p1 0 0 0
  else
    some ((-1), 0)
noncomputable def bd_X12_above_0 (t_s : Nat → Int32) (p1 : Int32) (v2 : Int32) (v3 : Int32) (t_thrown : Int32) (t_stale : Int32) (t_cap : Nat → Int32) (t_items : Int32) (t_used : Nat → Int32) (t_in : Nat → Int32) (t_before : Nat → Int32) (t_far : Nat → Int32) (t_steps : Nat → Int32) (t_worth : Nat → Int32) (t_side : Nat → Int32) (t_gains : Nat → Int32) : Option (((Int32 × Int32 × Int32 × Int32 × (Nat → Int32) × Int32 × (Nat → Int32) × (Nat → Int32) × (Nat → Int32) × (Nat → Int32) × (Nat → Int32) × (Nat → Int32) × (Nat → Int32) × (Nat → Int32))) ⊕ (Int32 × Int32 × Int32 × (Nat → Int32) × Int32 × (Nat → Int32) × (Nat → Int32) × (Nat → Int32) × (Nat → Int32) × (Nat → Int32) × (Nat → Int32) × (Nat → Int32) × (Nat → Int32))) :=
  if ((1 : Int32) <<< ((t_s (0 : Int32).toNatClampNeg) &&& 31)) ≤ v3 then
    some (.inr (v2, t_thrown, t_stale, t_cap, t_items, t_used, t_in, t_before, t_far, t_steps, t_worth, t_side, t_gains))
  else
    if inb v3 1024 = true then
    if (t_gains (v3).toNatClampNeg) < p1 then
      some (.inl (v2 + 0, v3 + 1, t_thrown, t_stale, t_cap, t_items, t_used, t_in, t_before, t_far, t_steps, t_worth, t_side, t_gains))
    else
      some (.inl (v2 + 1, v3 + 1, t_thrown, t_stale, t_cap, t_items, t_used, t_in, t_before, t_far, t_steps, t_worth, t_side, t_gains))
    else none
noncomputable def st_X12_above (t_s : Nat → Int32) (p1 : Int32) : ((Int32 × Int32 × Int32 × Int32 × (Nat → Int32) × Int32 × (Nat → Int32) × (Nat → Int32) × (Nat → Int32) × (Nat → Int32) × (Nat → Int32) × (Nat → Int32) × (Nat → Int32) × (Nat → Int32))) → Option (((Int32 × Int32 × Int32 × Int32 × (Nat → Int32) × Int32 × (Nat → Int32) × (Nat → Int32) × (Nat → Int32) × (Nat → Int32) × (Nat → Int32) × (Nat → Int32) × (Nat → Int32) × (Nat → Int32))) ⊕ (Int32 × Int32 × Int32 × (Nat → Int32) × Int32 × (Nat → Int32) × (Nat → Int32) × (Nat → Int32) × (Nat → Int32) × (Nat → Int32) × (Nat → Int32) × (Nat → Int32) × (Nat → Int32))) := fun s => match s with
  | (v2, v3, t_thrown, t_stale, t_cap, t_items, t_used, t_in, t_before, t_far, t_steps, t_worth, t_side, t_gains) => bd_X12_above_0 t_s p1 v2 v3 t_thrown t_stale t_cap t_items t_used t_in t_before t_far t_steps t_worth t_side t_gains
noncomputable def gn_X12_above_0 (t_s : Nat → Int32) (p1 : Int32) (v2 : Int32) (v3 : Int32) (t_thrown : Int32) (t_stale : Int32) (t_cap : Nat → Int32) (t_items : Int32) (t_used : Nat → Int32) (t_in : Nat → Int32) (t_before : Nat → Int32) (t_far : Nat → Int32) (t_steps : Nat → Int32) (t_worth : Nat → Int32) (t_side : Nat → Int32) (t_gains : Nat → Int32) : Option (Int32 × Int32 × Int32 × (Nat → Int32) × Int32 × (Nat → Int32) × (Nat → Int32) × (Nat → Int32) × (Nat → Int32) × (Nat → Int32) × (Nat → Int32) × (Nat → Int32) × (Nat → Int32)) := lpC (st_X12_above t_s p1) ((v2, v3, t_thrown, t_stale, t_cap, t_items, t_used, t_in, t_before, t_far, t_steps, t_worth, t_side, t_gains))
theorem gq_X12_above_0 (t_s : Nat → Int32) (p1 : Int32) (v2 : Int32) (v3 : Int32) (t_thrown : Int32) (t_stale : Int32) (t_cap : Nat → Int32) (t_items : Int32) (t_used : Nat → Int32) (t_in : Nat → Int32) (t_before : Nat → Int32) (t_far : Nat → Int32) (t_steps : Nat → Int32) (t_worth : Nat → Int32) (t_side : Nat → Int32) (t_gains : Nat → Int32) : gn_X12_above_0 t_s p1 v2 v3 t_thrown t_stale t_cap t_items t_used t_in t_before t_far t_steps t_worth t_side t_gains =
    if ((1 : Int32) <<< ((t_s (0 : Int32).toNatClampNeg) &&& 31)) ≤ v3 then
      some (v2, t_thrown, t_stale, t_cap, t_items, t_used, t_in, t_before, t_far, t_steps, t_worth, t_side, t_gains)
    else
      if inb v3 1024 = true then
      if (t_gains (v3).toNatClampNeg) < p1 then
        gn_X12_above_0 t_s p1 (v2 + 0) (v3 + 1) t_thrown t_stale t_cap t_items t_used t_in t_before t_far t_steps t_worth t_side t_gains
      else
        gn_X12_above_0 t_s p1 (v2 + 1) (v3 + 1) t_thrown t_stale t_cap t_items t_used t_in t_before t_far t_steps t_worth t_side t_gains
      else none := by
  rw [gn_X12_above_0, lpC_eq]
  show lpO _ (bd_X12_above_0 t_s p1 v2 v3 t_thrown t_stale t_cap t_items t_used t_in t_before t_far t_steps t_worth t_side t_gains) = _
  unfold bd_X12_above_0
  simp only [lpO_ite, lpO_bind, lpO_none, lpO_l, lpO_r]
  try rfl
noncomputable def dn_X12_above (t_items : Int32) (t_stale : Int32) (t_before : Nat → Int32) (t_cap : Nat → Int32) (t_far : Nat → Int32) (t_gains : Nat → Int32) (t_in : Nat → Int32) (t_s : Nat → Int32) (t_side : Nat → Int32) (t_steps : Nat → Int32) (t_used : Nat → Int32) (t_worth : Nat → Int32) (p1 : Int32) : Option (Int32 × Int32 × Int32 × (Nat → Int32) × Int32 × (Nat → Int32) × (Nat → Int32) × (Nat → Int32) × (Nat → Int32) × (Nat → Int32) × (Nat → Int32) × (Nat → Int32) × (Nat → Int32)) :=
  Option.bind (dn_X12_settle t_items t_stale t_before t_cap t_far t_gains t_in t_s t_side t_steps t_used t_worth) fun q1 =>
  gn_X12_above_0 t_s p1 0 0 0 q1.1 q1.2.1 q1.2.2.1 q1.2.2.2.1 q1.2.2.2.2.1 q1.2.2.2.2.2.1 q1.2.2.2.2.2.2.1 q1.2.2.2.2.2.2.2.1 q1.2.2.2.2.2.2.2.2.1 q1.2.2.2.2.2.2.2.2.2.1 q1.2.2.2.2.2.2.2.2.2.2
noncomputable def dn_X12_price (t_items : Int32) (t_before : Nat → Int32) (t_cap : Nat → Int32) (t_far : Nat → Int32) (t_in : Nat → Int32) (t_s : Nat → Int32) (t_side : Nat → Int32) (t_steps : Nat → Int32) (t_used : Nat → Int32) (t_worth : Nat → Int32) (p1 : Int32) (p2 : Int32) : Option (Int32 × Int32 × (Nat → Int32) × Int32 × (Nat → Int32) × (Nat → Int32) × (Nat → Int32) × (Nat → Int32) × (Nat → Int32) × (Nat → Int32) × (Nat → Int32)) :=
  Option.bind (dn_X12_isPerson t_s p1) fun q1 =>
  if q1 = true then
    Option.bind (dn_X12_isParts t_s p2) fun q3 =>
    if q3 = true then
      if inb ((24 : Int32) + p1) 284 = true then
      Option.bind (dn_X12_gainBy t_items t_before t_cap t_far t_in t_s t_side t_steps t_used t_worth p2 p1 ((t_s (((24 : Int32) + p1)).toNatClampNeg) + 1)) fun q6 =>
      Option.bind (dn_X12_gainBy q6.2.2.1 q6.2.2.2.2.2.1 q6.2.1 q6.2.2.2.2.2.2.1 q6.2.2.2.2.1 t_s q6.2.2.2.2.2.2.2.2.2 q6.2.2.2.2.2.2.2.1 q6.2.2.2.1 q6.2.2.2.2.2.2.2.2.1 p2 (-1) 0) fun q7 =>
      some (q6.1 - q7.1, 0, q7.2.1, q7.2.2.1, q7.2.2.2.1, q7.2.2.2.2.1, q7.2.2.2.2.2.1, q7.2.2.2.2.2.2.1, q7.2.2.2.2.2.2.2.1, q7.2.2.2.2.2.2.2.2.1, q7.2.2.2.2.2.2.2.2.2)
      else none
    else
      some ((-1), 0, t_cap, t_items, t_used, t_in, t_before, t_far, t_steps, t_worth, t_side)
  else
    some ((-1), 0, t_cap, t_items, t_used, t_in, t_before, t_far, t_steps, t_worth, t_side)
noncomputable def dn_X12_loss (t_items : Int32) (t_before : Nat → Int32) (t_cap : Nat → Int32) (t_far : Nat → Int32) (t_in : Nat → Int32) (t_s : Nat → Int32) (t_side : Nat → Int32) (t_steps : Nat → Int32) (t_used : Nat → Int32) (t_worth : Nat → Int32) (p1 : Int32) (p2 : Int32) : Option (Int32 × Int32 × (Nat → Int32) × Int32 × (Nat → Int32) × (Nat → Int32) × (Nat → Int32) × (Nat → Int32) × (Nat → Int32) × (Nat → Int32) × (Nat → Int32)) :=
  Option.bind (dn_X12_isPerson t_s p1) fun q1 =>
  if q1 = true then
    Option.bind (dn_X12_isParts t_s p2) fun q3 =>
    if q3 = true then
      Option.bind (dn_X12_gainBy t_items t_before t_cap t_far t_in t_s t_side t_steps t_used t_worth p2 (-1) 0) fun q5 =>
      Option.bind (dn_X12_gainBy q5.2.2.1 q5.2.2.2.2.2.1 q5.2.1 q5.2.2.2.2.2.2.1 q5.2.2.2.2.1 t_s q5.2.2.2.2.2.2.2.2.2 q5.2.2.2.2.2.2.2.1 q5.2.2.2.1 q5.2.2.2.2.2.2.2.2.1 p2 p1 0) fun q6 =>
      some (q5.1 - q6.1, 0, q6.2.1, q6.2.2.1, q6.2.2.2.1, q6.2.2.2.2.1, q6.2.2.2.2.2.1, q6.2.2.2.2.2.2.1, q6.2.2.2.2.2.2.2.1, q6.2.2.2.2.2.2.2.2.1, q6.2.2.2.2.2.2.2.2.2)
    else
      some ((-1), 0, t_cap, t_items, t_used, t_in, t_before, t_far, t_steps, t_worth, t_side)
  else
    some ((-1), 0, t_cap, t_items, t_used, t_in, t_before, t_far, t_steps, t_worth, t_side)
noncomputable def bd_X12_climb_0 (t_s : Nat → Int32) (v2 : Int32) (v3 : Int32) (t_thrown : Int32) (t_stale : Int32) (t_cap : Nat → Int32) (t_items : Int32) (t_used : Nat → Int32) (t_in : Nat → Int32) (t_before : Nat → Int32) (t_far : Nat → Int32) (t_steps : Nat → Int32) (t_worth : Nat → Int32) (t_side : Nat → Int32) (t_gains : Nat → Int32) (t_climbed : Int32) : Option (((Int32 × Int32 × Int32 × Int32 × (Nat → Int32) × Int32 × (Nat → Int32) × (Nat → Int32) × (Nat → Int32) × (Nat → Int32) × (Nat → Int32) × (Nat → Int32) × (Nat → Int32) × (Nat → Int32) × Int32)) ⊕ (Int32 × Int32 × Int32 × (Nat → Int32) × Int32 × (Nat → Int32) × (Nat → Int32) × (Nat → Int32) × (Nat → Int32) × (Nat → Int32) × (Nat → Int32) × (Nat → Int32) × (Nat → Int32) × Int32)) :=
  if (t_s (0 : Int32).toNatClampNeg) ≤ v3 then
    some (.inr (v2, t_thrown, t_stale, t_cap, t_items, t_used, t_in, t_before, t_far, t_steps, t_worth, t_side, t_gains, t_climbed))
  else
    if inb (v2 ^^^ ((1 : Int32) <<< (v3 &&& 31))) 1024 = true then
    if inb v2 1024 = true then
    if (t_gains ((v2 ^^^ ((1 : Int32) <<< (v3 &&& 31)))).toNatClampNeg) ≤ (t_gains (v2).toNatClampNeg) then
      some (.inl (v2, v3 + 1, t_thrown, t_stale, t_cap, t_items, t_used, t_in, t_before, t_far, t_steps, t_worth, t_side, t_gains, t_climbed))
    else
      some (.inl (v2 ^^^ ((1 : Int32) <<< (v3 &&& 31)), 0, t_thrown, t_stale, t_cap, t_items, t_used, t_in, t_before, t_far, t_steps, t_worth, t_side, t_gains, t_climbed + 1))
    else none
    else none
noncomputable def st_X12_climb (t_s : Nat → Int32) : ((Int32 × Int32 × Int32 × Int32 × (Nat → Int32) × Int32 × (Nat → Int32) × (Nat → Int32) × (Nat → Int32) × (Nat → Int32) × (Nat → Int32) × (Nat → Int32) × (Nat → Int32) × (Nat → Int32) × Int32)) → Option (((Int32 × Int32 × Int32 × Int32 × (Nat → Int32) × Int32 × (Nat → Int32) × (Nat → Int32) × (Nat → Int32) × (Nat → Int32) × (Nat → Int32) × (Nat → Int32) × (Nat → Int32) × (Nat → Int32) × Int32)) ⊕ (Int32 × Int32 × Int32 × (Nat → Int32) × Int32 × (Nat → Int32) × (Nat → Int32) × (Nat → Int32) × (Nat → Int32) × (Nat → Int32) × (Nat → Int32) × (Nat → Int32) × (Nat → Int32) × Int32)) := fun s => match s with
  | (v2, v3, t_thrown, t_stale, t_cap, t_items, t_used, t_in, t_before, t_far, t_steps, t_worth, t_side, t_gains, t_climbed) => bd_X12_climb_0 t_s v2 v3 t_thrown t_stale t_cap t_items t_used t_in t_before t_far t_steps t_worth t_side t_gains t_climbed
noncomputable def gn_X12_climb_0 (t_s : Nat → Int32) (v2 : Int32) (v3 : Int32) (t_thrown : Int32) (t_stale : Int32) (t_cap : Nat → Int32) (t_items : Int32) (t_used : Nat → Int32) (t_in : Nat → Int32) (t_before : Nat → Int32) (t_far : Nat → Int32) (t_steps : Nat → Int32) (t_worth : Nat → Int32) (t_side : Nat → Int32) (t_gains : Nat → Int32) (t_climbed : Int32) : Option (Int32 × Int32 × Int32 × (Nat → Int32) × Int32 × (Nat → Int32) × (Nat → Int32) × (Nat → Int32) × (Nat → Int32) × (Nat → Int32) × (Nat → Int32) × (Nat → Int32) × (Nat → Int32) × Int32) := lpC (st_X12_climb t_s) ((v2, v3, t_thrown, t_stale, t_cap, t_items, t_used, t_in, t_before, t_far, t_steps, t_worth, t_side, t_gains, t_climbed))
theorem gq_X12_climb_0 (t_s : Nat → Int32) (v2 : Int32) (v3 : Int32) (t_thrown : Int32) (t_stale : Int32) (t_cap : Nat → Int32) (t_items : Int32) (t_used : Nat → Int32) (t_in : Nat → Int32) (t_before : Nat → Int32) (t_far : Nat → Int32) (t_steps : Nat → Int32) (t_worth : Nat → Int32) (t_side : Nat → Int32) (t_gains : Nat → Int32) (t_climbed : Int32) : gn_X12_climb_0 t_s v2 v3 t_thrown t_stale t_cap t_items t_used t_in t_before t_far t_steps t_worth t_side t_gains t_climbed =
    if (t_s (0 : Int32).toNatClampNeg) ≤ v3 then
      some (v2, t_thrown, t_stale, t_cap, t_items, t_used, t_in, t_before, t_far, t_steps, t_worth, t_side, t_gains, t_climbed)
    else
      if inb (v2 ^^^ ((1 : Int32) <<< (v3 &&& 31))) 1024 = true then
      if inb v2 1024 = true then
      if (t_gains ((v2 ^^^ ((1 : Int32) <<< (v3 &&& 31)))).toNatClampNeg) ≤ (t_gains (v2).toNatClampNeg) then
        gn_X12_climb_0 t_s v2 (v3 + 1) t_thrown t_stale t_cap t_items t_used t_in t_before t_far t_steps t_worth t_side t_gains t_climbed
      else
        gn_X12_climb_0 t_s (v2 ^^^ ((1 : Int32) <<< (v3 &&& 31))) 0 t_thrown t_stale t_cap t_items t_used t_in t_before t_far t_steps t_worth t_side t_gains (t_climbed + 1)
      else none
      else none := by
  rw [gn_X12_climb_0, lpC_eq]
  show lpO _ (bd_X12_climb_0 t_s v2 v3 t_thrown t_stale t_cap t_items t_used t_in t_before t_far t_steps t_worth t_side t_gains t_climbed) = _
  unfold bd_X12_climb_0
  simp only [lpO_ite, lpO_bind, lpO_none, lpO_l, lpO_r]
  try rfl
noncomputable def dn_X12_climb (t_items : Int32) (t_stale : Int32) (t_climbed : Int32) (t_before : Nat → Int32) (t_cap : Nat → Int32) (t_far : Nat → Int32) (t_gains : Nat → Int32) (t_in : Nat → Int32) (t_s : Nat → Int32) (t_side : Nat → Int32) (t_steps : Nat → Int32) (t_used : Nat → Int32) (t_worth : Nat → Int32) (p1 : Int32) : Option (Int32 × Int32 × Int32 × (Nat → Int32) × Int32 × (Nat → Int32) × (Nat → Int32) × (Nat → Int32) × (Nat → Int32) × (Nat → Int32) × (Nat → Int32) × (Nat → Int32) × (Nat → Int32) × Int32) :=
  Option.bind (dn_X12_isParts t_s p1) fun q1 =>
  if q1 = true then
    Option.bind (dn_X12_settle t_items t_stale t_before t_cap t_far t_gains t_in t_s t_side t_steps t_used t_worth) fun q3 =>
    gn_X12_climb_0 t_s p1 0 0 q3.1 q3.2.1 q3.2.2.1 q3.2.2.2.1 q3.2.2.2.2.1 q3.2.2.2.2.2.1 q3.2.2.2.2.2.2.1 q3.2.2.2.2.2.2.2.1 q3.2.2.2.2.2.2.2.2.1 q3.2.2.2.2.2.2.2.2.2.1 q3.2.2.2.2.2.2.2.2.2.2 0
  else
    some ((-1), 0, t_stale, t_cap, t_items, t_used, t_in, t_before, t_far, t_steps, t_worth, t_side, t_gains, t_climbed)
noncomputable def dn_X12_climbed (t_climbed : Int32) : Option (Int32 × Int32) :=
  some (t_climbed, 0)
noncomputable def bd_X12_told_0 (t_s : Nat → Int32) (v1 : Int32) (v2 : Int32) (t_thrown : Int32) : Option (((Int32 × Int32 × Int32)) ⊕ (Int32 × Int32)) :=
  if (t_s (0 : Int32).toNatClampNeg) ≤ v2 then
    some (.inr (v1, t_thrown))
  else
    if inb ((34 : Int32) + v2) 284 = true then
    if (t_s (((34 : Int32) + v2)).toNatClampNeg) = 2 then
      some (.inl (v1 ||| ((1 : Int32) <<< (v2 &&& 31)), v2 + 1, t_thrown))
    else
      some (.inl (v1 ||| 0, v2 + 1, t_thrown))
    else none
noncomputable def st_X12_told (t_s : Nat → Int32) : ((Int32 × Int32 × Int32)) → Option (((Int32 × Int32 × Int32)) ⊕ (Int32 × Int32)) := fun s => match s with
  | (v1, v2, t_thrown) => bd_X12_told_0 t_s v1 v2 t_thrown
noncomputable def gn_X12_told_0 (t_s : Nat → Int32) (v1 : Int32) (v2 : Int32) (t_thrown : Int32) : Option (Int32 × Int32) := lpC (st_X12_told t_s) ((v1, v2, t_thrown))
theorem gq_X12_told_0 (t_s : Nat → Int32) (v1 : Int32) (v2 : Int32) (t_thrown : Int32) : gn_X12_told_0 t_s v1 v2 t_thrown =
    if (t_s (0 : Int32).toNatClampNeg) ≤ v2 then
      some (v1, t_thrown)
    else
      if inb ((34 : Int32) + v2) 284 = true then
      if (t_s (((34 : Int32) + v2)).toNatClampNeg) = 2 then
        gn_X12_told_0 t_s (v1 ||| ((1 : Int32) <<< (v2 &&& 31))) (v2 + 1) t_thrown
      else
        gn_X12_told_0 t_s (v1 ||| 0) (v2 + 1) t_thrown
      else none := by
  rw [gn_X12_told_0, lpC_eq]
  show lpO _ (bd_X12_told_0 t_s v1 v2 t_thrown) = _
  unfold bd_X12_told_0
  simp only [lpO_ite, lpO_bind, lpO_none, lpO_l, lpO_r]
  try rfl
noncomputable def dn_X12_told (t_s : Nat → Int32) : Option (Int32 × Int32) :=
  gn_X12_told_0 t_s 0 0 0
noncomputable def bd_X12_ownOf_0 (t_s : Nat → Int32) (p1 : Int32) (p2 : Int32) (v3 : Int32) (v4 : Int32) : Option (((Int32 × Int32)) ⊕ (Int32)) :=
  if (t_s (1 : Int32).toNatClampNeg) ≤ v4 then
    some (.inr v3)
  else
    Option.bind (dn_X12_goesAs t_s v4 p2) fun q2 =>
    if q2 ≤ 0 then
      some (.inl (v3 + 0, v4 + 1))
    else
      Option.bind (dn_X12_gainOf t_s v4 p1) fun q4 =>
      some (.inl (v3 + q4, v4 + 1))
noncomputable def st_X12_ownOf (t_s : Nat → Int32) (p1 : Int32) (p2 : Int32) : ((Int32 × Int32)) → Option (((Int32 × Int32)) ⊕ (Int32)) := fun s => match s with
  | (v3, v4) => bd_X12_ownOf_0 t_s p1 p2 v3 v4
noncomputable def gn_X12_ownOf_0 (t_s : Nat → Int32) (p1 : Int32) (p2 : Int32) (v3 : Int32) (v4 : Int32) : Option (Int32) := lpC (st_X12_ownOf t_s p1 p2) ((v3, v4))
theorem gq_X12_ownOf_0 (t_s : Nat → Int32) (p1 : Int32) (p2 : Int32) (v3 : Int32) (v4 : Int32) : gn_X12_ownOf_0 t_s p1 p2 v3 v4 =
    if (t_s (1 : Int32).toNatClampNeg) ≤ v4 then
      some v3
    else
      Option.bind (dn_X12_goesAs t_s v4 p2) fun q2 =>
      if q2 ≤ 0 then
        gn_X12_ownOf_0 t_s p1 p2 (v3 + 0) (v4 + 1)
      else
        Option.bind (dn_X12_gainOf t_s v4 p1) fun q4 =>
        gn_X12_ownOf_0 t_s p1 p2 (v3 + q4) (v4 + 1) := by
  rw [gn_X12_ownOf_0, lpC_eq]
  show lpO _ (bd_X12_ownOf_0 t_s p1 p2 v3 v4) = _
  unfold bd_X12_ownOf_0
  simp only [lpO_ite, lpO_bind, lpO_none, lpO_l, lpO_r]
  try rfl
noncomputable def dn_X12_ownOf (t_s : Nat → Int32) (p1 : Int32) (p2 : Int32) : Option (Int32) :=
  gn_X12_ownOf_0 t_s p1 p2 0 0
noncomputable def dn_X12_own (t_s : Nat → Int32) (p1 : Int32) (p2 : Int32) : Option (Int32 × Int32) :=
  Option.bind (dn_X12_isPerson t_s p1) fun q1 =>
  if q1 = true then
    Option.bind (dn_X12_isParts t_s p2) fun q3 =>
    if q3 = true then
      Option.bind (dn_X12_ownOf t_s p1 p2) fun q5 =>
      some (q5, 0)
    else
      some ((-1), 0)
  else
    some ((-1), 0)
noncomputable def bd_X12_isRest_0 (t_s : Nat → Int32) (p1 : Int32) (v2 : Int32) : Option (((Int32)) ⊕ (Bool)) :=
  if (t_s (0 : Int32).toNatClampNeg) ≤ v2 then
    some (.inr true)
  else
    Option.bind (dn_X12_ownOf t_s v2 (p1 ^^^ ((1 : Int32) <<< (v2 &&& 31)))) fun q2 =>
    Option.bind (dn_X12_ownOf t_s v2 p1) fun q3 =>
    if q2 ≤ q3 then
      some (.inl (v2 + 1))
    else
      some (.inr false)
noncomputable def st_X12_isRest (t_s : Nat → Int32) (p1 : Int32) : ((Int32)) → Option (((Int32)) ⊕ (Bool)) := fun s => match s with
  | v2 => bd_X12_isRest_0 t_s p1 v2
noncomputable def gn_X12_isRest_0 (t_s : Nat → Int32) (p1 : Int32) (v2 : Int32) : Option (Bool) := lpC (st_X12_isRest t_s p1) (v2)
theorem gq_X12_isRest_0 (t_s : Nat → Int32) (p1 : Int32) (v2 : Int32) : gn_X12_isRest_0 t_s p1 v2 =
    if (t_s (0 : Int32).toNatClampNeg) ≤ v2 then
      some true
    else
      Option.bind (dn_X12_ownOf t_s v2 (p1 ^^^ ((1 : Int32) <<< (v2 &&& 31)))) fun q2 =>
      Option.bind (dn_X12_ownOf t_s v2 p1) fun q3 =>
      if q2 ≤ q3 then
        gn_X12_isRest_0 t_s p1 (v2 + 1)
      else
        some false := by
  rw [gn_X12_isRest_0, lpC_eq]
  show lpO _ (bd_X12_isRest_0 t_s p1 v2) = _
  unfold bd_X12_isRest_0
  simp only [lpO_ite, lpO_bind, lpO_none, lpO_l, lpO_r]
  try rfl
noncomputable def dn_X12_isRest (t_s : Nat → Int32) (p1 : Int32) : Option (Bool) :=
  gn_X12_isRest_0 t_s p1 0
noncomputable def bd_X12_rests_0 (t_s : Nat → Int32) (p1 : Int32) (v2 : Int32) (v3 : Int32) (t_thrown : Int32) : Option (((Int32 × Int32 × Int32)) ⊕ (Int32 × Int32)) :=
  if ((1 : Int32) <<< ((t_s (0 : Int32).toNatClampNeg) &&& 31)) ≤ v3 then
    if p1 = (-1) then
      some (.inr (v2, t_thrown))
    else
      some (.inr ((-1), t_thrown))
  else
    Option.bind (dn_X12_isRest t_s v3) fun q4 =>
    if q4 = true then
      if v2 = p1 then
        some (.inr (v3, t_thrown))
      else
        some (.inl (v2 + 1, v3 + 1, t_thrown))
    else
      some (.inl (v2, v3 + 1, t_thrown))
noncomputable def st_X12_rests (t_s : Nat → Int32) (p1 : Int32) : ((Int32 × Int32 × Int32)) → Option (((Int32 × Int32 × Int32)) ⊕ (Int32 × Int32)) := fun s => match s with
  | (v2, v3, t_thrown) => bd_X12_rests_0 t_s p1 v2 v3 t_thrown
noncomputable def gn_X12_rests_0 (t_s : Nat → Int32) (p1 : Int32) (v2 : Int32) (v3 : Int32) (t_thrown : Int32) : Option (Int32 × Int32) := lpC (st_X12_rests t_s p1) ((v2, v3, t_thrown))
theorem gq_X12_rests_0 (t_s : Nat → Int32) (p1 : Int32) (v2 : Int32) (v3 : Int32) (t_thrown : Int32) : gn_X12_rests_0 t_s p1 v2 v3 t_thrown =
    if ((1 : Int32) <<< ((t_s (0 : Int32).toNatClampNeg) &&& 31)) ≤ v3 then
      if p1 = (-1) then
        some (v2, t_thrown)
      else
        some ((-1), t_thrown)
    else
      Option.bind (dn_X12_isRest t_s v3) fun q4 =>
      if q4 = true then
        if v2 = p1 then
          some (v3, t_thrown)
        else
          gn_X12_rests_0 t_s p1 (v2 + 1) (v3 + 1) t_thrown
      else
        gn_X12_rests_0 t_s p1 v2 (v3 + 1) t_thrown := by
  rw [gn_X12_rests_0, lpC_eq]
  show lpO _ (bd_X12_rests_0 t_s p1 v2 v3 t_thrown) = _
  unfold bd_X12_rests_0
  simp only [lpO_ite, lpO_bind, lpO_none, lpO_l, lpO_r]
  try rfl
noncomputable def dn_X12_rests (t_s : Nat → Int32) (p1 : Int32) : Option (Int32 × Int32) :=
  if ((-1) : Int32) ≤ p1 then
    gn_X12_rests_0 t_s p1 0 0 0
  else
    some ((-1), 0)
noncomputable def bd_X12_rounds_0 (t_s : Nat → Int32) (p1 : Int32) (v2 : Int32) (t_thrown : Int32) (t_seenAt : Nat → Int32) (t_hasEnded : Int32) (t_endedBy : Nat → Int32) : Option (((Int32 × Int32 × (Nat → Int32) × Int32 × (Nat → Int32)) ⊕ ((Int32 × Int32 × Int32 × (Nat → Int32) × Int32 × (Nat → Int32)) ⊕ ((Int32 × Int32 × Int32 × Int32 × Int32 × Int32 × (Nat → Int32) × Int32 × (Nat → Int32)) ⊕ ((Int32 × Int32 × Int32 × (Nat → Int32) × Int32 × (Nat → Int32)))))) ⊕ (Int32 × Int32 × (Nat → Int32) × Int32 × (Nat → Int32))) :=
  if (1024 : Int32) ≤ v2 then
    if inb p1 1024 = true then
    some (.inl (.inr (.inl (p1, 0, t_thrown, upd t_seenAt (p1).toNatClampNeg 0, 1, t_endedBy))))
    else none
  else
    if inb v2 1024 = true then
    some (.inl (.inl (v2 + 1, t_thrown, upd t_seenAt (v2).toNatClampNeg (-1), t_hasEnded, t_endedBy)))
    else none
noncomputable def bd_X12_rounds_1 (t_s : Nat → Int32) (p1 : Int32) (v2 : Int32) (v3 : Int32) (t_thrown : Int32) (t_seenAt : Nat → Int32) (t_hasEnded : Int32) (t_endedBy : Nat → Int32) : Option (((Int32 × Int32 × (Nat → Int32) × Int32 × (Nat → Int32)) ⊕ ((Int32 × Int32 × Int32 × (Nat → Int32) × Int32 × (Nat → Int32)) ⊕ ((Int32 × Int32 × Int32 × Int32 × Int32 × Int32 × (Nat → Int32) × Int32 × (Nat → Int32)) ⊕ ((Int32 × Int32 × Int32 × (Nat → Int32) × Int32 × (Nat → Int32)))))) ⊕ (Int32 × Int32 × (Nat → Int32) × Int32 × (Nat → Int32))) :=
  some (.inl (.inr (.inr (.inl (v2, v3, v2, 0, 0, t_thrown, t_seenAt, t_hasEnded, t_endedBy)))))
noncomputable def bd_X12_rounds_2 (t_s : Nat → Int32) (p1 : Int32) (v2 : Int32) (v3 : Int32) (v4 : Int32) (v5 : Int32) (v6 : Int32) (t_thrown : Int32) (t_seenAt : Nat → Int32) (t_hasEnded : Int32) (t_endedBy : Nat → Int32) : Option (((Int32 × Int32 × (Nat → Int32) × Int32 × (Nat → Int32)) ⊕ ((Int32 × Int32 × Int32 × (Nat → Int32) × Int32 × (Nat → Int32)) ⊕ ((Int32 × Int32 × Int32 × Int32 × Int32 × Int32 × (Nat → Int32) × Int32 × (Nat → Int32)) ⊕ ((Int32 × Int32 × Int32 × (Nat → Int32) × Int32 × (Nat → Int32)))))) ⊕ (Int32 × Int32 × (Nat → Int32) × Int32 × (Nat → Int32))) :=
  if (t_s (0 : Int32).toNatClampNeg) ≤ v6 then
    if v5 = 0 then
      if v2 = v4 then
        some (.inr (v3 + 1, t_thrown, t_seenAt, t_hasEnded, upd (upd t_endedBy (0 : Int32).toNatClampNeg v2) (1 : Int32).toNatClampNeg 0))
      else
        some (.inl (.inr (.inr (.inr ((v2, v3 + 1, t_thrown, t_seenAt, t_hasEnded, upd (upd t_endedBy (0 : Int32).toNatClampNeg v2) (1 : Int32).toNatClampNeg 0))))))
    else
      some (.inl (.inr (.inr (.inr ((v2, v3 + 1, t_thrown, t_seenAt, t_hasEnded, upd (upd t_endedBy (0 : Int32).toNatClampNeg v2) (1 : Int32).toNatClampNeg 0))))))
  else
    Option.bind (dn_X12_ownOf t_s v6 (v2 ^^^ ((1 : Int32) <<< (v6 &&& 31)))) fun q9 =>
    Option.bind (dn_X12_ownOf t_s v6 v2) fun q10 =>
    if q10 < q9 then
      some (.inl (.inr (.inr (.inl (v2 ^^^ ((1 : Int32) <<< (v6 &&& 31)), v3, v4, 1, v6 + 1, t_thrown, t_seenAt, t_hasEnded, t_endedBy)))))
    else
      some (.inl (.inr (.inr (.inl (v2, v3, v4, v5, v6 + 1, t_thrown, t_seenAt, t_hasEnded, t_endedBy)))))
noncomputable def bd_X12_rounds_3 (t_s : Nat → Int32) (p1 : Int32) (v2 : Int32) (v3 : Int32) (t_thrown : Int32) (t_seenAt : Nat → Int32) (t_hasEnded : Int32) (t_endedBy : Nat → Int32) : Option (((Int32 × Int32 × (Nat → Int32) × Int32 × (Nat → Int32)) ⊕ ((Int32 × Int32 × Int32 × (Nat → Int32) × Int32 × (Nat → Int32)) ⊕ ((Int32 × Int32 × Int32 × Int32 × Int32 × Int32 × (Nat → Int32) × Int32 × (Nat → Int32)) ⊕ ((Int32 × Int32 × Int32 × (Nat → Int32) × Int32 × (Nat → Int32)))))) ⊕ (Int32 × Int32 × (Nat → Int32) × Int32 × (Nat → Int32))) :=
  if inb v2 1024 = true then
  if (t_seenAt (v2).toNatClampNeg) < 0 then
    if inb v2 1024 = true then
    some (.inl (.inr (.inl (v2, v3, t_thrown, upd t_seenAt (v2).toNatClampNeg v3, t_hasEnded, t_endedBy))))
    else none
  else
    if inb v2 1024 = true then
    some (.inr (v3, t_thrown, t_seenAt, t_hasEnded, upd t_endedBy (1 : Int32).toNatClampNeg (v3 - (t_seenAt (v2).toNatClampNeg))))
    else none
  else none
noncomputable def st_X12_rounds (t_s : Nat → Int32) (p1 : Int32) : ((Int32 × Int32 × (Nat → Int32) × Int32 × (Nat → Int32)) ⊕ ((Int32 × Int32 × Int32 × (Nat → Int32) × Int32 × (Nat → Int32)) ⊕ ((Int32 × Int32 × Int32 × Int32 × Int32 × Int32 × (Nat → Int32) × Int32 × (Nat → Int32)) ⊕ ((Int32 × Int32 × Int32 × (Nat → Int32) × Int32 × (Nat → Int32)))))) → Option (((Int32 × Int32 × (Nat → Int32) × Int32 × (Nat → Int32)) ⊕ ((Int32 × Int32 × Int32 × (Nat → Int32) × Int32 × (Nat → Int32)) ⊕ ((Int32 × Int32 × Int32 × Int32 × Int32 × Int32 × (Nat → Int32) × Int32 × (Nat → Int32)) ⊕ ((Int32 × Int32 × Int32 × (Nat → Int32) × Int32 × (Nat → Int32)))))) ⊕ (Int32 × Int32 × (Nat → Int32) × Int32 × (Nat → Int32))) := fun s => match s with
  | .inl (v2, t_thrown, t_seenAt, t_hasEnded, t_endedBy) => bd_X12_rounds_0 t_s p1 v2 t_thrown t_seenAt t_hasEnded t_endedBy
  | .inr (.inl (v2, v3, t_thrown, t_seenAt, t_hasEnded, t_endedBy)) => bd_X12_rounds_1 t_s p1 v2 v3 t_thrown t_seenAt t_hasEnded t_endedBy
  | .inr (.inr (.inl (v2, v3, v4, v5, v6, t_thrown, t_seenAt, t_hasEnded, t_endedBy))) => bd_X12_rounds_2 t_s p1 v2 v3 v4 v5 v6 t_thrown t_seenAt t_hasEnded t_endedBy
  | .inr (.inr (.inr ((v2, v3, t_thrown, t_seenAt, t_hasEnded, t_endedBy)))) => bd_X12_rounds_3 t_s p1 v2 v3 t_thrown t_seenAt t_hasEnded t_endedBy
noncomputable def gn_X12_rounds_0 (t_s : Nat → Int32) (p1 : Int32) (v2 : Int32) (t_thrown : Int32) (t_seenAt : Nat → Int32) (t_hasEnded : Int32) (t_endedBy : Nat → Int32) : Option (Int32 × Int32 × (Nat → Int32) × Int32 × (Nat → Int32)) := lpC (st_X12_rounds t_s p1) (.inl (v2, t_thrown, t_seenAt, t_hasEnded, t_endedBy))
noncomputable def gn_X12_rounds_1 (t_s : Nat → Int32) (p1 : Int32) (v2 : Int32) (v3 : Int32) (t_thrown : Int32) (t_seenAt : Nat → Int32) (t_hasEnded : Int32) (t_endedBy : Nat → Int32) : Option (Int32 × Int32 × (Nat → Int32) × Int32 × (Nat → Int32)) := lpC (st_X12_rounds t_s p1) (.inr (.inl (v2, v3, t_thrown, t_seenAt, t_hasEnded, t_endedBy)))
noncomputable def gn_X12_rounds_2 (t_s : Nat → Int32) (p1 : Int32) (v2 : Int32) (v3 : Int32) (v4 : Int32) (v5 : Int32) (v6 : Int32) (t_thrown : Int32) (t_seenAt : Nat → Int32) (t_hasEnded : Int32) (t_endedBy : Nat → Int32) : Option (Int32 × Int32 × (Nat → Int32) × Int32 × (Nat → Int32)) := lpC (st_X12_rounds t_s p1) (.inr (.inr (.inl (v2, v3, v4, v5, v6, t_thrown, t_seenAt, t_hasEnded, t_endedBy))))
noncomputable def gn_X12_rounds_3 (t_s : Nat → Int32) (p1 : Int32) (v2 : Int32) (v3 : Int32) (t_thrown : Int32) (t_seenAt : Nat → Int32) (t_hasEnded : Int32) (t_endedBy : Nat → Int32) : Option (Int32 × Int32 × (Nat → Int32) × Int32 × (Nat → Int32)) := lpC (st_X12_rounds t_s p1) (.inr (.inr (.inr ((v2, v3, t_thrown, t_seenAt, t_hasEnded, t_endedBy)))))
theorem gq_X12_rounds_0 (t_s : Nat → Int32) (p1 : Int32) (v2 : Int32) (t_thrown : Int32) (t_seenAt : Nat → Int32) (t_hasEnded : Int32) (t_endedBy : Nat → Int32) : gn_X12_rounds_0 t_s p1 v2 t_thrown t_seenAt t_hasEnded t_endedBy =
    if (1024 : Int32) ≤ v2 then
      if inb p1 1024 = true then
      gn_X12_rounds_1 t_s p1 p1 0 t_thrown (upd t_seenAt (p1).toNatClampNeg 0) 1 t_endedBy
      else none
    else
      if inb v2 1024 = true then
      gn_X12_rounds_0 t_s p1 (v2 + 1) t_thrown (upd t_seenAt (v2).toNatClampNeg (-1)) t_hasEnded t_endedBy
      else none := by
  rw [gn_X12_rounds_0, lpC_eq]
  show lpO _ (bd_X12_rounds_0 t_s p1 v2 t_thrown t_seenAt t_hasEnded t_endedBy) = _
  unfold bd_X12_rounds_0
  simp only [lpO_ite, lpO_bind, lpO_none, lpO_l, lpO_r]
  try rfl
theorem gq_X12_rounds_1 (t_s : Nat → Int32) (p1 : Int32) (v2 : Int32) (v3 : Int32) (t_thrown : Int32) (t_seenAt : Nat → Int32) (t_hasEnded : Int32) (t_endedBy : Nat → Int32) : gn_X12_rounds_1 t_s p1 v2 v3 t_thrown t_seenAt t_hasEnded t_endedBy =
    gn_X12_rounds_2 t_s p1 v2 v3 v2 0 0 t_thrown t_seenAt t_hasEnded t_endedBy := by
  rw [gn_X12_rounds_1, lpC_eq]
  show lpO _ (bd_X12_rounds_1 t_s p1 v2 v3 t_thrown t_seenAt t_hasEnded t_endedBy) = _
  unfold bd_X12_rounds_1
  simp only [lpO_ite, lpO_bind, lpO_none, lpO_l, lpO_r]
  try rfl
theorem gq_X12_rounds_2 (t_s : Nat → Int32) (p1 : Int32) (v2 : Int32) (v3 : Int32) (v4 : Int32) (v5 : Int32) (v6 : Int32) (t_thrown : Int32) (t_seenAt : Nat → Int32) (t_hasEnded : Int32) (t_endedBy : Nat → Int32) : gn_X12_rounds_2 t_s p1 v2 v3 v4 v5 v6 t_thrown t_seenAt t_hasEnded t_endedBy =
    if (t_s (0 : Int32).toNatClampNeg) ≤ v6 then
      if v5 = 0 then
        if v2 = v4 then
          some (v3 + 1, t_thrown, t_seenAt, t_hasEnded, upd (upd t_endedBy (0 : Int32).toNatClampNeg v2) (1 : Int32).toNatClampNeg 0)
        else
          gn_X12_rounds_3 t_s p1 v2 (v3 + 1) t_thrown t_seenAt t_hasEnded (upd (upd t_endedBy (0 : Int32).toNatClampNeg v2) (1 : Int32).toNatClampNeg 0)
      else
        gn_X12_rounds_3 t_s p1 v2 (v3 + 1) t_thrown t_seenAt t_hasEnded (upd (upd t_endedBy (0 : Int32).toNatClampNeg v2) (1 : Int32).toNatClampNeg 0)
    else
      Option.bind (dn_X12_ownOf t_s v6 (v2 ^^^ ((1 : Int32) <<< (v6 &&& 31)))) fun q9 =>
      Option.bind (dn_X12_ownOf t_s v6 v2) fun q10 =>
      if q10 < q9 then
        gn_X12_rounds_2 t_s p1 (v2 ^^^ ((1 : Int32) <<< (v6 &&& 31))) v3 v4 1 (v6 + 1) t_thrown t_seenAt t_hasEnded t_endedBy
      else
        gn_X12_rounds_2 t_s p1 v2 v3 v4 v5 (v6 + 1) t_thrown t_seenAt t_hasEnded t_endedBy := by
  rw [gn_X12_rounds_2, lpC_eq]
  show lpO _ (bd_X12_rounds_2 t_s p1 v2 v3 v4 v5 v6 t_thrown t_seenAt t_hasEnded t_endedBy) = _
  unfold bd_X12_rounds_2
  simp only [lpO_ite, lpO_bind, lpO_none, lpO_l, lpO_r]
  try rfl
theorem gq_X12_rounds_3 (t_s : Nat → Int32) (p1 : Int32) (v2 : Int32) (v3 : Int32) (t_thrown : Int32) (t_seenAt : Nat → Int32) (t_hasEnded : Int32) (t_endedBy : Nat → Int32) : gn_X12_rounds_3 t_s p1 v2 v3 t_thrown t_seenAt t_hasEnded t_endedBy =
    if inb v2 1024 = true then
    if (t_seenAt (v2).toNatClampNeg) < 0 then
      if inb v2 1024 = true then
      gn_X12_rounds_1 t_s p1 v2 v3 t_thrown (upd t_seenAt (v2).toNatClampNeg v3) t_hasEnded t_endedBy
      else none
    else
      if inb v2 1024 = true then
      some (v3, t_thrown, t_seenAt, t_hasEnded, upd t_endedBy (1 : Int32).toNatClampNeg (v3 - (t_seenAt (v2).toNatClampNeg)))
      else none
    else none := by
  rw [gn_X12_rounds_3, lpC_eq]
  show lpO _ (bd_X12_rounds_3 t_s p1 v2 v3 t_thrown t_seenAt t_hasEnded t_endedBy) = _
  unfold bd_X12_rounds_3
  simp only [lpO_ite, lpO_bind, lpO_none, lpO_l, lpO_r]
  try rfl
noncomputable def dn_X12_rounds (t_hasEnded : Int32) (t_endedBy : Nat → Int32) (t_s : Nat → Int32) (t_seenAt : Nat → Int32) (p1 : Int32) : Option (Int32 × Int32 × (Nat → Int32) × Int32 × (Nat → Int32)) :=
  Option.bind (dn_X12_isParts t_s p1) fun q1 =>
  if q1 = true then
    gn_X12_rounds_0 t_s p1 0 0 t_seenAt t_hasEnded t_endedBy
  else
    some ((-1), 0, t_seenAt, t_hasEnded, t_endedBy)
