noncomputable def dn_X6_start (t_tape_size : Int32) (p1 : Int32) : Option (Int32 × Int32 × Int32 × Int32 × Int32) :=
  Option.bind (dn_X9_startReading t_tape_size p1) fun q1 =>
  some (q1.1, q1.2, 0, 0, 0)
noncomputable def dn_X6_refuse (t_tape_place : Int32) (p1 : Int32) : Option (Bool × Int32 × Int32) :=
  some (false, p1, t_tape_place)
noncomputable def dn_X6_isWholeText (t_kind : Int32) (t_place : Int32) (t_tape_size : Int32) (t_tape_place : Int32) (p1 : Int32) : Option (Bool × Int32 × Int32) :=
  if t_tape_size ≤ p1 then
    some (true, t_kind, t_place)
  else
    Option.bind (dn_X6_refuse t_tape_place 1) fun q2 =>
    if q2.1 = true then
      some (true, q2.2.1, q2.2.2)
    else
      some (false, q2.2.1, q2.2.2)
noncomputable def bd_X6_readNewName_0  (k0 : Int32) (t_tape_position : Int32) (t_tape_place : Int32) (t_tape_number : Int32) (t_tape_name : Int64) (t_tape_token : Int32) (t_kind : Int32) (t_place : Int32) : Option (((Int32 × Int32 × Int32 × Int32 × Int64 × Int32 × Int32 × Int32)) ⊕ (Bool × Int32 × Int32 × Int32 × Int64 × Int32 × Int32 × Int32)) :=
  if k0 = 0 then
    Option.bind (dn_X6_refuse t_tape_place 3) fun q10 =>
    if q10.1 = true then
      some (.inr (true, t_tape_position, t_tape_place, t_tape_number, t_tape_name, t_tape_token, q10.2.1, q10.2.2))
    else
      some (.inr (false, t_tape_position, t_tape_place, t_tape_number, t_tape_name, t_tape_token, q10.2.1, q10.2.2))
  else
    some (.inr (true, t_tape_position, t_tape_place, t_tape_number, t_tape_name, t_tape_token, t_kind, t_place))
noncomputable def st_X6_readNewName  : ((Int32 × Int32 × Int32 × Int32 × Int64 × Int32 × Int32 × Int32)) → Option (((Int32 × Int32 × Int32 × Int32 × Int64 × Int32 × Int32 × Int32)) ⊕ (Bool × Int32 × Int32 × Int32 × Int64 × Int32 × Int32 × Int32)) := fun s => match s with
  | (k0, t_tape_position, t_tape_place, t_tape_number, t_tape_name, t_tape_token, t_kind, t_place) => bd_X6_readNewName_0  k0 t_tape_position t_tape_place t_tape_number t_tape_name t_tape_token t_kind t_place
noncomputable def gn_X6_readNewName_0  (k0 : Int32) (t_tape_position : Int32) (t_tape_place : Int32) (t_tape_number : Int32) (t_tape_name : Int64) (t_tape_token : Int32) (t_kind : Int32) (t_place : Int32) : Option (Bool × Int32 × Int32 × Int32 × Int64 × Int32 × Int32 × Int32) := lpC (st_X6_readNewName ) ((k0, t_tape_position, t_tape_place, t_tape_number, t_tape_name, t_tape_token, t_kind, t_place))
theorem gq_X6_readNewName_0  (k0 : Int32) (t_tape_position : Int32) (t_tape_place : Int32) (t_tape_number : Int32) (t_tape_name : Int64) (t_tape_token : Int32) (t_kind : Int32) (t_place : Int32) : gn_X6_readNewName_0  k0 t_tape_position t_tape_place t_tape_number t_tape_name t_tape_token t_kind t_place =
    if k0 = 0 then
      Option.bind (dn_X6_refuse t_tape_place 3) fun q10 =>
      if q10.1 = true then
        some (true, t_tape_position, t_tape_place, t_tape_number, t_tape_name, t_tape_token, q10.2.1, q10.2.2)
      else
        some (false, t_tape_position, t_tape_place, t_tape_number, t_tape_name, t_tape_token, q10.2.1, q10.2.2)
    else
      some (true, t_tape_position, t_tape_place, t_tape_number, t_tape_name, t_tape_token, t_kind, t_place) := by
  rw [gn_X6_readNewName_0, lpC_eq]
  show lpO _ (bd_X6_readNewName_0  k0 t_tape_position t_tape_place t_tape_number t_tape_name t_tape_token t_kind t_place) = _
  unfold bd_X6_readNewName_0
  simp only [lpO_ite, lpO_bind, lpO_none, lpO_l, lpO_r]
  try rfl
noncomputable def dn_X6_readNewName (t_kind : Int32) (t_place : Int32) (t_tape_size : Int32) (t_tape_token : Int32) (t_tape_place : Int32) (t_tape_number : Int32) (t_tape_name : Int64) (t_tape_position : Int32) (t_tape_stop : Int32) (t_tape_bytes : Nat → Int32) (p1_persons : Int32) (p1_deals : Int32) (p1_dealNames : Nat → Int64) (p1_personNames : Nat → Int64) : Option (Bool × Int32 × Int32 × Int32 × Int64 × Int32 × Int32 × Int32) :=
  Option.bind (dn_X9_next t_tape_size t_tape_token t_tape_place t_tape_number t_tape_name t_tape_position t_tape_stop t_tape_bytes) fun q1 =>
  Option.bind (dn_X9_isName q1.2.2.2.2 q1.2.1 q1.1 t_tape_bytes) fun q2 =>
  if q2 = true then
    Option.bind (dn_X10_findPerson p1_persons p1_personNames q1.2.2.2.1) fun q4 =>
    if q4 = (-1) then
      Option.bind (dn_X10_findDeal p1_deals p1_dealNames q1.2.2.2.1) fun q6 =>
      if q6 = (-1) then
        gn_X6_readNewName_0  1 q1.1 q1.2.1 q1.2.2.1 q1.2.2.2.1 q1.2.2.2.2 t_kind t_place
      else
        gn_X6_readNewName_0  0 q1.1 q1.2.1 q1.2.2.1 q1.2.2.2.1 q1.2.2.2.2 t_kind t_place
    else
      gn_X6_readNewName_0  0 q1.1 q1.2.1 q1.2.2.1 q1.2.2.2.1 q1.2.2.2.2 t_kind t_place
  else
    Option.bind (dn_X6_refuse q1.2.1 1) fun q8 =>
    some (q8.1, q1.1, q1.2.1, q1.2.2.1, q1.2.2.2.1, q1.2.2.2.2, q8.2.1, q8.2.2)
noncomputable def bd_X6_readNumber_0  (t_tape_position : Int32) (t_tape_place : Int32) (t_tape_number : Int32) (t_tape_name : Int64) (t_tape_token : Int32) (t_kind : Int32) (t_place : Int32) : Option (((Int32 × Int32 × Int32 × Int64 × Int32 × Int32 × Int32)) ⊕ (Bool × Int32 × Int32 × Int32 × Int64 × Int32 × Int32 × Int32)) :=
  Option.bind (dn_X6_refuse t_tape_place 2) fun q6 =>
  if q6.1 = true then
    some (.inr (true, t_tape_position, t_tape_place, t_tape_number, t_tape_name, t_tape_token, q6.2.1, q6.2.2))
  else
    some (.inr (false, t_tape_position, t_tape_place, t_tape_number, t_tape_name, t_tape_token, q6.2.1, q6.2.2))
noncomputable def st_X6_readNumber  : ((Int32 × Int32 × Int32 × Int64 × Int32 × Int32 × Int32)) → Option (((Int32 × Int32 × Int32 × Int64 × Int32 × Int32 × Int32)) ⊕ (Bool × Int32 × Int32 × Int32 × Int64 × Int32 × Int32 × Int32)) := fun s => match s with
  | (t_tape_position, t_tape_place, t_tape_number, t_tape_name, t_tape_token, t_kind, t_place) => bd_X6_readNumber_0  t_tape_position t_tape_place t_tape_number t_tape_name t_tape_token t_kind t_place
noncomputable def gn_X6_readNumber_0  (t_tape_position : Int32) (t_tape_place : Int32) (t_tape_number : Int32) (t_tape_name : Int64) (t_tape_token : Int32) (t_kind : Int32) (t_place : Int32) : Option (Bool × Int32 × Int32 × Int32 × Int64 × Int32 × Int32 × Int32) := lpC (st_X6_readNumber ) ((t_tape_position, t_tape_place, t_tape_number, t_tape_name, t_tape_token, t_kind, t_place))
theorem gq_X6_readNumber_0  (t_tape_position : Int32) (t_tape_place : Int32) (t_tape_number : Int32) (t_tape_name : Int64) (t_tape_token : Int32) (t_kind : Int32) (t_place : Int32) : gn_X6_readNumber_0  t_tape_position t_tape_place t_tape_number t_tape_name t_tape_token t_kind t_place =
    Option.bind (dn_X6_refuse t_tape_place 2) fun q6 =>
    if q6.1 = true then
      some (true, t_tape_position, t_tape_place, t_tape_number, t_tape_name, t_tape_token, q6.2.1, q6.2.2)
    else
      some (false, t_tape_position, t_tape_place, t_tape_number, t_tape_name, t_tape_token, q6.2.1, q6.2.2) := by
  rw [gn_X6_readNumber_0, lpC_eq]
  show lpO _ (bd_X6_readNumber_0  t_tape_position t_tape_place t_tape_number t_tape_name t_tape_token t_kind t_place) = _
  unfold bd_X6_readNumber_0
  simp only [lpO_ite, lpO_bind, lpO_none, lpO_l, lpO_r]
  try rfl
noncomputable def dn_X6_readNumber (t_kind : Int32) (t_place : Int32) (t_tape_size : Int32) (t_tape_token : Int32) (t_tape_place : Int32) (t_tape_number : Int32) (t_tape_name : Int64) (t_tape_position : Int32) (t_tape_stop : Int32) (t_tape_bytes : Nat → Int32) (p1 : Int32) (p2 : Int32) : Option (Bool × Int32 × Int32 × Int32 × Int64 × Int32 × Int32 × Int32) :=
  Option.bind (dn_X9_next t_tape_size t_tape_token t_tape_place t_tape_number t_tape_name t_tape_position t_tape_stop t_tape_bytes) fun q1 =>
  if q1.2.2.2.2 = 2 then
    if q1.2.2.1 < p1 then
      gn_X6_readNumber_0  q1.1 q1.2.1 q1.2.2.1 q1.2.2.2.1 q1.2.2.2.2 t_kind t_place
    else
      if q1.2.2.1 ≤ p2 then
        some (true, q1.1, q1.2.1, q1.2.2.1, q1.2.2.2.1, q1.2.2.2.2, t_kind, t_place)
      else
        gn_X6_readNumber_0  q1.1 q1.2.1 q1.2.2.1 q1.2.2.2.1 q1.2.2.2.2 t_kind t_place
  else
    Option.bind (dn_X6_refuse q1.2.1 1) fun q5 =>
    some (q5.1, q1.1, q1.2.1, q1.2.2.1, q1.2.2.2.1, q1.2.2.2.2, q5.2.1, q5.2.2)
noncomputable def dn_X6_atSemicolon (t_kind : Int32) (t_place : Int32) (t_tape_token : Int32) (t_tape_place : Int32) : Option (Bool × Int32 × Int32) :=
  if t_tape_token = 3 then
    some (true, t_kind, t_place)
  else
    Option.bind (dn_X6_refuse t_tape_place 1) fun q2 =>
    if q2.1 = true then
      some (true, q2.2.1, q2.2.2)
    else
      some (false, q2.2.1, q2.2.2)
noncomputable def dn_X6_readSemicolon (t_kind : Int32) (t_place : Int32) (t_tape_size : Int32) (t_tape_token : Int32) (t_tape_place : Int32) (t_tape_number : Int32) (t_tape_name : Int64) (t_tape_position : Int32) (t_tape_stop : Int32) (t_tape_bytes : Nat → Int32) : Option (Bool × Int32 × Int32 × Int32 × Int64 × Int32 × Int32 × Int32) :=
  Option.bind (dn_X9_next t_tape_size t_tape_token t_tape_place t_tape_number t_tape_name t_tape_position t_tape_stop t_tape_bytes) fun q1 =>
  Option.bind (dn_X6_atSemicolon t_kind t_place q1.2.2.2.2 q1.2.1) fun q2 =>
  some (q2.1, q1.1, q1.2.1, q1.2.2.1, q1.2.2.2.1, q1.2.2.2.2, q2.2.1, q2.2.2)
noncomputable def dn_X6_readPerson (t_kind : Int32) (t_place : Int32) (t_tape_size : Int32) (t_tape_token : Int32) (t_tape_place : Int32) (t_tape_number : Int32) (t_tape_name : Int64) (t_tape_position : Int32) (t_tape_stop : Int32) (t_tape_bytes : Nat → Int32) (p1_persons : Int32) (p1_deals : Int32) (p1_born : Nat → Int32) (p1_dealNames : Nat → Int64) (p1_dies : Nat → Int32) (p1_limit : Nat → Int32) (p1_personNames : Nat → Int64) : Option (Bool × Int32 × Int32 × Int32 × Int64 × Int32 × Int32 × Int32 × (Nat → Int64) × (Nat → Int32) × (Nat → Int32) × (Nat → Int32) × Int32) :=
  if p1_persons < 10 then
    Option.bind (dn_X6_readNewName t_kind t_place t_tape_size t_tape_token t_tape_place t_tape_number t_tape_name t_tape_position t_tape_stop t_tape_bytes p1_persons p1_deals p1_dealNames p1_personNames) fun q2 =>
    if q2.1 = true then
      Option.bind (dn_X6_readNumber q2.2.2.2.2.2.2.1 q2.2.2.2.2.2.2.2 t_tape_size q2.2.2.2.2.2.1 q2.2.2.1 q2.2.2.2.1 q2.2.2.2.2.1 q2.2.1 t_tape_stop t_tape_bytes 0 59) fun q4 =>
      if q4.1 = true then
        Option.bind (dn_X6_readNumber q4.2.2.2.2.2.2.1 q4.2.2.2.2.2.2.2 t_tape_size q4.2.2.2.2.2.1 q4.2.2.1 q4.2.2.2.1 q4.2.2.2.2.1 q4.2.1 t_tape_stop t_tape_bytes q4.2.2.2.1 59) fun q6 =>
        if q6.1 = true then
          Option.bind (dn_X10_addPerson p1_persons p1_born p1_dies p1_limit p1_personNames q2.2.2.2.2.1 q4.2.2.2.1 q6.2.2.2.1) fun q8 =>
          Option.bind (dn_X6_readSemicolon q6.2.2.2.2.2.2.1 q6.2.2.2.2.2.2.2 t_tape_size q6.2.2.2.2.2.1 q6.2.2.1 q6.2.2.2.1 q6.2.2.2.2.1 q6.2.1 t_tape_stop t_tape_bytes) fun q9 =>
          some (q9.1, q9.2.1, q9.2.2.1, q9.2.2.2.1, q9.2.2.2.2.1, q9.2.2.2.2.2.1, q9.2.2.2.2.2.2.1, q9.2.2.2.2.2.2.2, q8.1, q8.2.1, q8.2.2.1, q8.2.2.2.1, q8.2.2.2.2)
        else
          some (false, q6.2.1, q6.2.2.1, q6.2.2.2.1, q6.2.2.2.2.1, q6.2.2.2.2.2.1, q6.2.2.2.2.2.2.1, q6.2.2.2.2.2.2.2, p1_personNames, p1_born, p1_dies, p1_limit, p1_persons)
      else
        some (false, q4.2.1, q4.2.2.1, q4.2.2.2.1, q4.2.2.2.2.1, q4.2.2.2.2.2.1, q4.2.2.2.2.2.2.1, q4.2.2.2.2.2.2.2, p1_personNames, p1_born, p1_dies, p1_limit, p1_persons)
    else
      some (false, q2.2.1, q2.2.2.1, q2.2.2.2.1, q2.2.2.2.2.1, q2.2.2.2.2.2.1, q2.2.2.2.2.2.2.1, q2.2.2.2.2.2.2.2, p1_personNames, p1_born, p1_dies, p1_limit, p1_persons)
  else
    Option.bind (dn_X6_refuse t_tape_place 4) fun q10 =>
    some (q10.1, t_tape_position, t_tape_place, t_tape_number, t_tape_name, t_tape_token, q10.2.1, q10.2.2, p1_personNames, p1_born, p1_dies, p1_limit, p1_persons)
noncomputable def dn_X6_readKnownPerson (t_kind : Int32) (t_place : Int32) (t_tape_size : Int32) (t_tape_token : Int32) (t_tape_place : Int32) (t_tape_number : Int32) (t_tape_name : Int64) (t_tape_position : Int32) (t_tape_stop : Int32) (t_tape_bytes : Nat → Int32) (p1_persons : Int32) (p1_personNames : Nat → Int64) : Option (Int32 × Int32 × Int32 × Int32 × Int64 × Int32 × Int32 × Int32) :=
  Option.bind (dn_X9_next t_tape_size t_tape_token t_tape_place t_tape_number t_tape_name t_tape_position t_tape_stop t_tape_bytes) fun q1 =>
  Option.bind (dn_X9_isName q1.2.2.2.2 q1.2.1 q1.1 t_tape_bytes) fun q2 =>
  if q2 = true then
    Option.bind (dn_X10_findPerson p1_persons p1_personNames q1.2.2.2.1) fun q4 =>
    if q4 = (-1) then
      Option.bind (dn_X6_refuse q1.2.1 3) fun q6 =>
      some (q4, q1.1, q1.2.1, q1.2.2.1, q1.2.2.2.1, q1.2.2.2.2, q6.2.1, q6.2.2)
    else
      some (q4, q1.1, q1.2.1, q1.2.2.1, q1.2.2.2.1, q1.2.2.2.2, t_kind, t_place)
  else
    Option.bind (dn_X6_refuse q1.2.1 1) fun q7 =>
    some ((-1), q1.1, q1.2.1, q1.2.2.1, q1.2.2.2.1, q1.2.2.2.2, q7.2.1, q7.2.2)
noncomputable def dn_X6_readLimit (t_kind : Int32) (t_place : Int32) (t_limitsTold : Int32) (t_tape_size : Int32) (t_tape_token : Int32) (t_tape_place : Int32) (t_tape_number : Int32) (t_tape_name : Int64) (t_tape_position : Int32) (t_tape_stop : Int32) (t_tape_bytes : Nat → Int32) (p1_persons : Int32) (p1_limit : Nat → Int32) (p1_personNames : Nat → Int64) : Option (Bool × Int32 × Int32 × Int32 × Int64 × Int32 × Int32 × Int32 × Int32 × (Nat → Int32)) :=
  Option.bind (dn_X6_readKnownPerson t_kind t_place t_tape_size t_tape_token t_tape_place t_tape_number t_tape_name t_tape_position t_tape_stop t_tape_bytes p1_persons p1_personNames) fun q1 =>
  if q1.1 = (-1) then
    some (false, q1.2.1, q1.2.2.1, q1.2.2.2.1, q1.2.2.2.2.1, q1.2.2.2.2.2.1, q1.2.2.2.2.2.2.1, q1.2.2.2.2.2.2.2, t_limitsTold, p1_limit)
  else
    if ((t_limitsTold >>> (q1.1 &&& 31)) &&& 1) = 1 then
      Option.bind (dn_X6_refuse q1.2.2.1 3) fun q8 =>
      some (q8.1, q1.2.1, q1.2.2.1, q1.2.2.2.1, q1.2.2.2.2.1, q1.2.2.2.2.2.1, q8.2.1, q8.2.2, t_limitsTold, p1_limit)
    else
      Option.bind (dn_X6_readNumber q1.2.2.2.2.2.2.1 q1.2.2.2.2.2.2.2 t_tape_size q1.2.2.2.2.2.1 q1.2.2.1 q1.2.2.2.1 q1.2.2.2.2.1 q1.2.1 t_tape_stop t_tape_bytes 0 9) fun q4 =>
      if q4.1 = true then
        if inb q1.1 10 = true then
        Option.bind (dn_X6_readSemicolon q4.2.2.2.2.2.2.1 q4.2.2.2.2.2.2.2 t_tape_size q4.2.2.2.2.2.1 q4.2.2.1 q4.2.2.2.1 q4.2.2.2.2.1 q4.2.1 t_tape_stop t_tape_bytes) fun q7 =>
        some (q7.1, q7.2.1, q7.2.2.1, q7.2.2.2.1, q7.2.2.2.2.1, q7.2.2.2.2.2.1, q7.2.2.2.2.2.2.1, q7.2.2.2.2.2.2.2, t_limitsTold ||| ((1 : Int32) <<< (q1.1 &&& 31)), upd p1_limit (q1.1).toNatClampNeg q4.2.2.2.1)
        else none
      else
        some (false, q4.2.1, q4.2.2.1, q4.2.2.2.1, q4.2.2.2.2.1, q4.2.2.2.2.2.1, q4.2.2.2.2.2.2.1, q4.2.2.2.2.2.2.2, t_limitsTold ||| ((1 : Int32) <<< (q1.1 &&& 31)), p1_limit)
noncomputable def dn_X6_readDeal (t_kind : Int32) (t_place : Int32) (t_tape_size : Int32) (t_tape_token : Int32) (t_tape_place : Int32) (t_tape_number : Int32) (t_tape_name : Int64) (t_tape_position : Int32) (t_tape_stop : Int32) (t_tape_bytes : Nat → Int32) (p1_persons : Int32) (p1_deals : Int32) (p1_born : Nat → Int32) (p1_borrower : Nat → Int32) (p1_dealNames : Nat → Int64) (p1_dies : Nat → Int32) (p1_lender : Nat → Int32) (p1_personNames : Nat → Int64) (p1_year : Nat → Int32) : Option (Bool × Int32 × Int32 × Int32 × Int64 × Int32 × Int32 × Int32 × (Nat → Int64) × (Nat → Int32) × (Nat → Int32) × (Nat → Int32)) :=
  if p1_deals < 30 then
    Option.bind (dn_X6_readNewName t_kind t_place t_tape_size t_tape_token t_tape_place t_tape_number t_tape_name t_tape_position t_tape_stop t_tape_bytes p1_persons p1_deals p1_dealNames p1_personNames) fun q2 =>
    if q2.1 = true then
      if inb p1_deals 30 = true then
      Option.bind (dn_X6_readKnownPerson q2.2.2.2.2.2.2.1 q2.2.2.2.2.2.2.2 t_tape_size q2.2.2.2.2.2.1 q2.2.2.1 q2.2.2.2.1 q2.2.2.2.2.1 q2.2.1 t_tape_stop t_tape_bytes p1_persons p1_personNames) fun q5 =>
      if q5.1 = (-1) then
        some (false, q5.2.1, q5.2.2.1, q5.2.2.2.1, q5.2.2.2.2.1, q5.2.2.2.2.2.1, q5.2.2.2.2.2.2.1, q5.2.2.2.2.2.2.2, vp_updL p1_dealNames (p1_deals).toNatClampNeg q2.2.2.2.2.1, p1_lender, p1_borrower, p1_year)
      else
        Option.bind (dn_X6_readKnownPerson q5.2.2.2.2.2.2.1 q5.2.2.2.2.2.2.2 t_tape_size q5.2.2.2.2.2.1 q5.2.2.1 q5.2.2.2.1 q5.2.2.2.2.1 q5.2.1 t_tape_stop t_tape_bytes p1_persons p1_personNames) fun q7 =>
        if q7.1 = (-1) then
          some (false, q7.2.1, q7.2.2.1, q7.2.2.2.1, q7.2.2.2.2.1, q7.2.2.2.2.2.1, q7.2.2.2.2.2.2.1, q7.2.2.2.2.2.2.2, vp_updL p1_dealNames (p1_deals).toNatClampNeg q2.2.2.2.2.1, p1_lender, p1_borrower, p1_year)
        else
          if q7.1 = q5.1 then
            Option.bind (dn_X6_refuse q7.2.2.1 3) fun q19 =>
            some (q19.1, q7.2.1, q7.2.2.1, q7.2.2.2.1, q7.2.2.2.2.1, q7.2.2.2.2.2.1, q19.2.1, q19.2.2, vp_updL p1_dealNames (p1_deals).toNatClampNeg q2.2.2.2.2.1, p1_lender, p1_borrower, p1_year)
          else
            if inb q5.1 10 = true then
            if inb q7.1 10 = true then
            if inb q5.1 10 = true then
            if inb q7.1 10 = true then
            Option.bind (dn_X6_readNumber q7.2.2.2.2.2.2.1 q7.2.2.2.2.2.2.2 t_tape_size q7.2.2.2.2.2.1 q7.2.2.1 q7.2.2.2.1 q7.2.2.2.2.1 q7.2.1 t_tape_stop t_tape_bytes (if (p1_born (q5.1).toNatClampNeg) < (p1_born (q7.1).toNatClampNeg) then (p1_born (q7.1).toNatClampNeg) else (p1_born (q5.1).toNatClampNeg)) (if (p1_dies (q7.1).toNatClampNeg) < (p1_dies (q5.1).toNatClampNeg) then (p1_dies (q7.1).toNatClampNeg) else (p1_dies (q5.1).toNatClampNeg))) fun q14 =>
            if q14.1 = true then
              if inb p1_deals 30 = true then
              if inb p1_deals 30 = true then
              if inb p1_deals 30 = true then
              some (true, q14.2.1, q14.2.2.1, q14.2.2.2.1, q14.2.2.2.2.1, q14.2.2.2.2.2.1, q14.2.2.2.2.2.2.1, q14.2.2.2.2.2.2.2, vp_updL p1_dealNames (p1_deals).toNatClampNeg q2.2.2.2.2.1, upd p1_lender (p1_deals).toNatClampNeg q5.1, upd p1_borrower (p1_deals).toNatClampNeg q7.1, upd p1_year (p1_deals).toNatClampNeg q14.2.2.2.1)
              else none
              else none
              else none
            else
              some (false, q14.2.1, q14.2.2.1, q14.2.2.2.1, q14.2.2.2.2.1, q14.2.2.2.2.2.1, q14.2.2.2.2.2.2.1, q14.2.2.2.2.2.2.2, vp_updL p1_dealNames (p1_deals).toNatClampNeg q2.2.2.2.2.1, p1_lender, p1_borrower, p1_year)
            else none
            else none
            else none
            else none
      else none
    else
      some (false, q2.2.1, q2.2.2.1, q2.2.2.2.1, q2.2.2.2.2.1, q2.2.2.2.2.2.1, q2.2.2.2.2.2.2.1, q2.2.2.2.2.2.2.2, p1_dealNames, p1_lender, p1_borrower, p1_year)
  else
    Option.bind (dn_X6_refuse t_tape_place 4) fun q20 =>
    some (q20.1, t_tape_position, t_tape_place, t_tape_number, t_tape_name, t_tape_token, q20.2.1, q20.2.2, p1_dealNames, p1_lender, p1_borrower, p1_year)
noncomputable def bd_X6_readGains_0 (t_tape_size : Int32) (t_tape_stop : Int32) (t_tape_bytes : Nat → Int32) (p2 : Int32) (k1 : Int32) (k2 : Int32) (t_tape_position : Int32) (t_tape_place : Int32) (t_tape_number : Int32) (t_tape_name : Int64) (t_tape_token : Int32) (t_kind : Int32) (t_place : Int32) (p1_lenderGain : Nat → Int32) (p1_borrowerGain : Nat → Int32) (p1_either : Nat → Int32) (p1_deals : Int32) : Option (((Int32 × Int32 × Int32 × Int32 × Int32 × Int64 × Int32 × Int32 × Int32 × (Nat → Int32) × (Nat → Int32) × (Nat → Int32) × Int32) ⊕ ((Int32 × Int32 × Int32 × Int64 × Int32 × Int32 × Int32 × (Nat → Int32) × (Nat → Int32) × (Nat → Int32) × Int32))) ⊕ (Bool × Int32 × Int32 × Int32 × Int64 × Int32 × Int32 × Int32 × (Nat → Int32) × (Nat → Int32) × (Nat → Int32) × Int32)) :=
  if inb k1 30 = true then
  if inb p2 30 = true then
  if ((upd p1_either (k1).toNatClampNeg k2) (p2).toNatClampNeg) = 1 then
    Option.bind (dn_X9_next t_tape_size t_tape_token t_tape_place t_tape_number t_tape_name t_tape_position t_tape_stop t_tape_bytes) fun q13 =>
    some (.inl (.inr ((q13.1, q13.2.1, q13.2.2.1, q13.2.2.2.1, q13.2.2.2.2, t_kind, t_place, p1_lenderGain, p1_borrowerGain, upd p1_either (k1).toNatClampNeg k2, p1_deals))))
  else
    some (.inl (.inr ((t_tape_position, t_tape_place, t_tape_number, t_tape_name, t_tape_token, t_kind, t_place, p1_lenderGain, p1_borrowerGain, upd p1_either (k1).toNatClampNeg k2, p1_deals))))
  else none
  else none
noncomputable def bd_X6_readGains_1 (t_tape_size : Int32) (t_tape_stop : Int32) (t_tape_bytes : Nat → Int32) (p2 : Int32) (t_tape_position : Int32) (t_tape_place : Int32) (t_tape_number : Int32) (t_tape_name : Int64) (t_tape_token : Int32) (t_kind : Int32) (t_place : Int32) (p1_lenderGain : Nat → Int32) (p1_borrowerGain : Nat → Int32) (p1_either : Nat → Int32) (p1_deals : Int32) : Option (((Int32 × Int32 × Int32 × Int32 × Int32 × Int64 × Int32 × Int32 × Int32 × (Nat → Int32) × (Nat → Int32) × (Nat → Int32) × Int32) ⊕ ((Int32 × Int32 × Int32 × Int64 × Int32 × Int32 × Int32 × (Nat → Int32) × (Nat → Int32) × (Nat → Int32) × Int32))) ⊕ (Bool × Int32 × Int32 × Int32 × Int64 × Int32 × Int32 × Int32 × (Nat → Int32) × (Nat → Int32) × (Nat → Int32) × Int32)) :=
  Option.bind (dn_X6_atSemicolon t_kind t_place t_tape_token t_tape_place) fun q14 =>
  some (.inr (q14.1, t_tape_position, t_tape_place, t_tape_number, t_tape_name, t_tape_token, q14.2.1, q14.2.2, p1_lenderGain, p1_borrowerGain, p1_either, p1_deals + 1))
noncomputable def st_X6_readGains (t_tape_size : Int32) (t_tape_stop : Int32) (t_tape_bytes : Nat → Int32) (p2 : Int32) : ((Int32 × Int32 × Int32 × Int32 × Int32 × Int64 × Int32 × Int32 × Int32 × (Nat → Int32) × (Nat → Int32) × (Nat → Int32) × Int32) ⊕ ((Int32 × Int32 × Int32 × Int64 × Int32 × Int32 × Int32 × (Nat → Int32) × (Nat → Int32) × (Nat → Int32) × Int32))) → Option (((Int32 × Int32 × Int32 × Int32 × Int32 × Int64 × Int32 × Int32 × Int32 × (Nat → Int32) × (Nat → Int32) × (Nat → Int32) × Int32) ⊕ ((Int32 × Int32 × Int32 × Int64 × Int32 × Int32 × Int32 × (Nat → Int32) × (Nat → Int32) × (Nat → Int32) × Int32))) ⊕ (Bool × Int32 × Int32 × Int32 × Int64 × Int32 × Int32 × Int32 × (Nat → Int32) × (Nat → Int32) × (Nat → Int32) × Int32)) := fun s => match s with
  | .inl (k1, k2, t_tape_position, t_tape_place, t_tape_number, t_tape_name, t_tape_token, t_kind, t_place, p1_lenderGain, p1_borrowerGain, p1_either, p1_deals) => bd_X6_readGains_0 t_tape_size t_tape_stop t_tape_bytes p2 k1 k2 t_tape_position t_tape_place t_tape_number t_tape_name t_tape_token t_kind t_place p1_lenderGain p1_borrowerGain p1_either p1_deals
  | .inr ((t_tape_position, t_tape_place, t_tape_number, t_tape_name, t_tape_token, t_kind, t_place, p1_lenderGain, p1_borrowerGain, p1_either, p1_deals)) => bd_X6_readGains_1 t_tape_size t_tape_stop t_tape_bytes p2 t_tape_position t_tape_place t_tape_number t_tape_name t_tape_token t_kind t_place p1_lenderGain p1_borrowerGain p1_either p1_deals
noncomputable def gn_X6_readGains_0 (t_tape_size : Int32) (t_tape_stop : Int32) (t_tape_bytes : Nat → Int32) (p2 : Int32) (k1 : Int32) (k2 : Int32) (t_tape_position : Int32) (t_tape_place : Int32) (t_tape_number : Int32) (t_tape_name : Int64) (t_tape_token : Int32) (t_kind : Int32) (t_place : Int32) (p1_lenderGain : Nat → Int32) (p1_borrowerGain : Nat → Int32) (p1_either : Nat → Int32) (p1_deals : Int32) : Option (Bool × Int32 × Int32 × Int32 × Int64 × Int32 × Int32 × Int32 × (Nat → Int32) × (Nat → Int32) × (Nat → Int32) × Int32) := lpC (st_X6_readGains t_tape_size t_tape_stop t_tape_bytes p2) (.inl (k1, k2, t_tape_position, t_tape_place, t_tape_number, t_tape_name, t_tape_token, t_kind, t_place, p1_lenderGain, p1_borrowerGain, p1_either, p1_deals))
noncomputable def gn_X6_readGains_1 (t_tape_size : Int32) (t_tape_stop : Int32) (t_tape_bytes : Nat → Int32) (p2 : Int32) (t_tape_position : Int32) (t_tape_place : Int32) (t_tape_number : Int32) (t_tape_name : Int64) (t_tape_token : Int32) (t_kind : Int32) (t_place : Int32) (p1_lenderGain : Nat → Int32) (p1_borrowerGain : Nat → Int32) (p1_either : Nat → Int32) (p1_deals : Int32) : Option (Bool × Int32 × Int32 × Int32 × Int64 × Int32 × Int32 × Int32 × (Nat → Int32) × (Nat → Int32) × (Nat → Int32) × Int32) := lpC (st_X6_readGains t_tape_size t_tape_stop t_tape_bytes p2) (.inr ((t_tape_position, t_tape_place, t_tape_number, t_tape_name, t_tape_token, t_kind, t_place, p1_lenderGain, p1_borrowerGain, p1_either, p1_deals)))
theorem gq_X6_readGains_0 (t_tape_size : Int32) (t_tape_stop : Int32) (t_tape_bytes : Nat → Int32) (p2 : Int32) (k1 : Int32) (k2 : Int32) (t_tape_position : Int32) (t_tape_place : Int32) (t_tape_number : Int32) (t_tape_name : Int64) (t_tape_token : Int32) (t_kind : Int32) (t_place : Int32) (p1_lenderGain : Nat → Int32) (p1_borrowerGain : Nat → Int32) (p1_either : Nat → Int32) (p1_deals : Int32) : gn_X6_readGains_0 t_tape_size t_tape_stop t_tape_bytes p2 k1 k2 t_tape_position t_tape_place t_tape_number t_tape_name t_tape_token t_kind t_place p1_lenderGain p1_borrowerGain p1_either p1_deals =
    if inb k1 30 = true then
    if inb p2 30 = true then
    if ((upd p1_either (k1).toNatClampNeg k2) (p2).toNatClampNeg) = 1 then
      Option.bind (dn_X9_next t_tape_size t_tape_token t_tape_place t_tape_number t_tape_name t_tape_position t_tape_stop t_tape_bytes) fun q13 =>
      gn_X6_readGains_1 t_tape_size t_tape_stop t_tape_bytes p2 q13.1 q13.2.1 q13.2.2.1 q13.2.2.2.1 q13.2.2.2.2 t_kind t_place p1_lenderGain p1_borrowerGain (upd p1_either (k1).toNatClampNeg k2) p1_deals
    else
      gn_X6_readGains_1 t_tape_size t_tape_stop t_tape_bytes p2 t_tape_position t_tape_place t_tape_number t_tape_name t_tape_token t_kind t_place p1_lenderGain p1_borrowerGain (upd p1_either (k1).toNatClampNeg k2) p1_deals
    else none
    else none := by
  rw [gn_X6_readGains_0, lpC_eq]
  show lpO _ (bd_X6_readGains_0 t_tape_size t_tape_stop t_tape_bytes p2 k1 k2 t_tape_position t_tape_place t_tape_number t_tape_name t_tape_token t_kind t_place p1_lenderGain p1_borrowerGain p1_either p1_deals) = _
  unfold bd_X6_readGains_0
  simp only [lpO_ite, lpO_bind, lpO_none, lpO_l, lpO_r]
  try rfl
theorem gq_X6_readGains_1 (t_tape_size : Int32) (t_tape_stop : Int32) (t_tape_bytes : Nat → Int32) (p2 : Int32) (t_tape_position : Int32) (t_tape_place : Int32) (t_tape_number : Int32) (t_tape_name : Int64) (t_tape_token : Int32) (t_kind : Int32) (t_place : Int32) (p1_lenderGain : Nat → Int32) (p1_borrowerGain : Nat → Int32) (p1_either : Nat → Int32) (p1_deals : Int32) : gn_X6_readGains_1 t_tape_size t_tape_stop t_tape_bytes p2 t_tape_position t_tape_place t_tape_number t_tape_name t_tape_token t_kind t_place p1_lenderGain p1_borrowerGain p1_either p1_deals =
    Option.bind (dn_X6_atSemicolon t_kind t_place t_tape_token t_tape_place) fun q14 =>
    some (q14.1, t_tape_position, t_tape_place, t_tape_number, t_tape_name, t_tape_token, q14.2.1, q14.2.2, p1_lenderGain, p1_borrowerGain, p1_either, p1_deals + 1) := by
  rw [gn_X6_readGains_1, lpC_eq]
  show lpO _ (bd_X6_readGains_1 t_tape_size t_tape_stop t_tape_bytes p2 t_tape_position t_tape_place t_tape_number t_tape_name t_tape_token t_kind t_place p1_lenderGain p1_borrowerGain p1_either p1_deals) = _
  unfold bd_X6_readGains_1
  simp only [lpO_ite, lpO_bind, lpO_none, lpO_l, lpO_r]
  try rfl
noncomputable def dn_X6_readGains (t_kind : Int32) (t_place : Int32) (t_tape_size : Int32) (t_tape_token : Int32) (t_tape_place : Int32) (t_tape_number : Int32) (t_tape_name : Int64) (t_tape_position : Int32) (t_tape_stop : Int32) (t_tape_bytes : Nat → Int32) (p1_deals : Int32) (p1_borrowerGain : Nat → Int32) (p1_either : Nat → Int32) (p1_lenderGain : Nat → Int32) (p2 : Int32) : Option (Bool × Int32 × Int32 × Int32 × Int64 × Int32 × Int32 × Int32 × (Nat → Int32) × (Nat → Int32) × (Nat → Int32) × Int32) :=
  Option.bind (dn_X6_readNumber t_kind t_place t_tape_size t_tape_token t_tape_place t_tape_number t_tape_name t_tape_position t_tape_stop t_tape_bytes 0 99) fun q1 =>
  if q1.1 = true then
    if inb p2 30 = true then
    Option.bind (dn_X6_readNumber q1.2.2.2.2.2.2.1 q1.2.2.2.2.2.2.2 t_tape_size q1.2.2.2.2.2.1 q1.2.2.1 q1.2.2.2.1 q1.2.2.2.2.1 q1.2.1 t_tape_stop t_tape_bytes 0 99) fun q4 =>
    if q4.1 = true then
      if inb p2 30 = true then
      Option.bind (dn_X9_next t_tape_size q4.2.2.2.2.2.1 q4.2.2.1 q4.2.2.2.1 q4.2.2.2.2.1 q4.2.1 t_tape_stop t_tape_bytes) fun q7 =>
      Option.bind (dn_X9_isWord q7.2.2.2.2 q7.2.1 q7.1 t_tape_bytes 3) fun q8 =>
      if q8 = true then
        gn_X6_readGains_0 t_tape_size t_tape_stop t_tape_bytes p2 p2 1 q7.1 q7.2.1 q7.2.2.1 q7.2.2.2.1 q7.2.2.2.2 q4.2.2.2.2.2.2.1 q4.2.2.2.2.2.2.2 (upd p1_lenderGain (p2).toNatClampNeg q1.2.2.2.1) (upd p1_borrowerGain (p2).toNatClampNeg q4.2.2.2.1) p1_either p1_deals
      else
        gn_X6_readGains_0 t_tape_size t_tape_stop t_tape_bytes p2 p2 0 q7.1 q7.2.1 q7.2.2.1 q7.2.2.2.1 q7.2.2.2.2 q4.2.2.2.2.2.2.1 q4.2.2.2.2.2.2.2 (upd p1_lenderGain (p2).toNatClampNeg q1.2.2.2.1) (upd p1_borrowerGain (p2).toNatClampNeg q4.2.2.2.1) p1_either p1_deals
      else none
    else
      some (false, q4.2.1, q4.2.2.1, q4.2.2.2.1, q4.2.2.2.2.1, q4.2.2.2.2.2.1, q4.2.2.2.2.2.2.1, q4.2.2.2.2.2.2.2, upd p1_lenderGain (p2).toNatClampNeg q1.2.2.2.1, p1_borrowerGain, p1_either, p1_deals)
    else none
  else
    some (false, q1.2.1, q1.2.2.1, q1.2.2.2.1, q1.2.2.2.2.1, q1.2.2.2.2.2.1, q1.2.2.2.2.2.2.1, q1.2.2.2.2.2.2.2, p1_lenderGain, p1_borrowerGain, p1_either, p1_deals)
noncomputable def dn_X6_readLaw (t_kind : Int32) (t_place : Int32) (t_lawTold : Int32) (t_tape_size : Int32) (t_tape_token : Int32) (t_tape_place : Int32) (t_tape_number : Int32) (t_tape_name : Int64) (t_tape_position : Int32) (t_tape_stop : Int32) (t_tape_bytes : Nat → Int32) (p1_lawYears : Int32) : Option (Bool × Int32 × Int32 × Int32 × Int32 × Int64 × Int32 × Int32 × Int32 × Int32) :=
  if t_lawTold = 0 then
    Option.bind (dn_X9_next t_tape_size t_tape_token t_tape_place t_tape_number t_tape_name t_tape_position t_tape_stop t_tape_bytes) fun q2 =>
    Option.bind (dn_X9_isWord q2.2.2.2.2 q2.2.1 q2.1 t_tape_bytes 6) fun q3 =>
    if q3 = true then
      Option.bind (dn_X6_readNumber t_kind t_place t_tape_size q2.2.2.2.2 q2.2.1 q2.2.2.1 q2.2.2.2.1 q2.1 t_tape_stop t_tape_bytes 1 60) fun q9 =>
      if q9.1 = true then
        Option.bind (dn_X6_readSemicolon q9.2.2.2.2.2.2.1 q9.2.2.2.2.2.2.2 t_tape_size q9.2.2.2.2.2.1 q9.2.2.1 q9.2.2.2.1 q9.2.2.2.2.1 q9.2.1 t_tape_stop t_tape_bytes) fun q11 =>
        some (q11.1, 1, q11.2.1, q11.2.2.1, q11.2.2.2.1, q11.2.2.2.2.1, q11.2.2.2.2.2.1, q11.2.2.2.2.2.2.1, q11.2.2.2.2.2.2.2, q9.2.2.2.1)
      else
        some (false, 1, q9.2.1, q9.2.2.1, q9.2.2.2.1, q9.2.2.2.2.1, q9.2.2.2.2.2.1, q9.2.2.2.2.2.2.1, q9.2.2.2.2.2.2.2, p1_lawYears)
    else
      Option.bind (dn_X9_isWord q2.2.2.2.2 q2.2.1 q2.1 t_tape_bytes 5) fun q5 =>
      if q5 = true then
        Option.bind (dn_X6_readSemicolon t_kind t_place t_tape_size q2.2.2.2.2 q2.2.1 q2.2.2.1 q2.2.2.2.1 q2.1 t_tape_stop t_tape_bytes) fun q7 =>
        some (q7.1, 1, q7.2.1, q7.2.2.1, q7.2.2.2.1, q7.2.2.2.2.1, q7.2.2.2.2.2.1, q7.2.2.2.2.2.2.1, q7.2.2.2.2.2.2.2, p1_lawYears)
      else
        Option.bind (dn_X6_refuse q2.2.1 1) fun q8 =>
        some (q8.1, 1, q2.1, q2.2.1, q2.2.2.1, q2.2.2.2.1, q2.2.2.2.2, q8.2.1, q8.2.2, p1_lawYears)
  else
    Option.bind (dn_X6_refuse t_tape_place 3) fun q12 =>
    some (q12.1, t_lawTold, t_tape_position, t_tape_place, t_tape_number, t_tape_name, t_tape_token, q12.2.1, q12.2.2, p1_lawYears)
noncomputable def dn_X6_readPart (t_kind : Int32) (t_place : Int32) (t_partsTold : Int32) (t_tape_size : Int32) (t_tape_token : Int32) (t_tape_place : Int32) (t_tape_number : Int32) (t_tape_name : Int64) (t_tape_position : Int32) (t_tape_stop : Int32) (t_tape_bytes : Nat → Int32) (p1_persons : Int32) (p1_toldParts : Int32) (p1_personNames : Nat → Int64) : Option (Bool × Int32 × Int32 × Int32 × Int64 × Int32 × Int32 × Int32 × Int32 × Int32) :=
  Option.bind (dn_X6_readKnownPerson t_kind t_place t_tape_size t_tape_token t_tape_place t_tape_number t_tape_name t_tape_position t_tape_stop t_tape_bytes p1_persons p1_personNames) fun q1 =>
  if q1.1 = (-1) then
    some (false, q1.2.1, q1.2.2.1, q1.2.2.2.1, q1.2.2.2.2.1, q1.2.2.2.2.2.1, q1.2.2.2.2.2.2.1, q1.2.2.2.2.2.2.2, t_partsTold, p1_toldParts)
  else
    if ((t_partsTold >>> (q1.1 &&& 31)) &&& 1) = 1 then
      Option.bind (dn_X6_refuse q1.2.2.1 3) fun q12 =>
      some (q12.1, q1.2.1, q1.2.2.1, q1.2.2.2.1, q1.2.2.2.2.1, q1.2.2.2.2.2.1, q12.2.1, q12.2.2, t_partsTold, p1_toldParts)
    else
      Option.bind (dn_X9_next t_tape_size q1.2.2.2.2.2.1 q1.2.2.1 q1.2.2.2.1 q1.2.2.2.2.1 q1.2.1 t_tape_stop t_tape_bytes) fun q4 =>
      Option.bind (dn_X9_isWord q4.2.2.2.2 q4.2.1 q4.1 t_tape_bytes 8) fun q5 =>
      if q5 = true then
        Option.bind (dn_X6_readSemicolon q1.2.2.2.2.2.2.1 q1.2.2.2.2.2.2.2 t_tape_size q4.2.2.2.2 q4.2.1 q4.2.2.1 q4.2.2.2.1 q4.1 t_tape_stop t_tape_bytes) fun q11 =>
        some (q11.1, q11.2.1, q11.2.2.1, q11.2.2.2.1, q11.2.2.2.2.1, q11.2.2.2.2.2.1, q11.2.2.2.2.2.2.1, q11.2.2.2.2.2.2.2, t_partsTold ||| ((1 : Int32) <<< (q1.1 &&& 31)), p1_toldParts ||| ((1 : Int32) <<< (q1.1 &&& 31)))
      else
        Option.bind (dn_X9_isWord q4.2.2.2.2 q4.2.1 q4.1 t_tape_bytes 9) fun q7 =>
        if q7 = true then
          Option.bind (dn_X6_readSemicolon q1.2.2.2.2.2.2.1 q1.2.2.2.2.2.2.2 t_tape_size q4.2.2.2.2 q4.2.1 q4.2.2.1 q4.2.2.2.1 q4.1 t_tape_stop t_tape_bytes) fun q9 =>
          some (q9.1, q9.2.1, q9.2.2.1, q9.2.2.2.1, q9.2.2.2.2.1, q9.2.2.2.2.2.1, q9.2.2.2.2.2.2.1, q9.2.2.2.2.2.2.2, t_partsTold ||| ((1 : Int32) <<< (q1.1 &&& 31)), p1_toldParts)
        else
          Option.bind (dn_X6_refuse q4.2.1 1) fun q10 =>
          some (q10.1, q4.1, q4.2.1, q4.2.2.1, q4.2.2.2.1, q4.2.2.2.2, q10.2.1, q10.2.2, t_partsTold ||| ((1 : Int32) <<< (q1.1 &&& 31)), p1_toldParts)
noncomputable def dn_X6_readLine (t_kind : Int32) (t_place : Int32) (t_limitsTold : Int32) (t_partsTold : Int32) (t_lawTold : Int32) (t_tape_size : Int32) (t_tape_token : Int32) (t_tape_place : Int32) (t_tape_number : Int32) (t_tape_name : Int64) (t_tape_position : Int32) (t_tape_stop : Int32) (t_tape_bytes : Nat → Int32) (p1_persons : Int32) (p1_deals : Int32) (p1_lawYears : Int32) (p1_toldParts : Int32) (p1_born : Nat → Int32) (p1_borrower : Nat → Int32) (p1_borrowerGain : Nat → Int32) (p1_dealNames : Nat → Int64) (p1_dies : Nat → Int32) (p1_either : Nat → Int32) (p1_lender : Nat → Int32) (p1_lenderGain : Nat → Int32) (p1_limit : Nat → Int32) (p1_personNames : Nat → Int64) (p1_year : Nat → Int32) : Option (Bool × Int32 × Int32 × Int32 × Int32 × Int32 × Int64 × Int32 × Int32 × Int32 × Int32 × Int32 × (Nat → Int64) × (Nat → Int32) × (Nat → Int32) × (Nat → Int32) × (Nat → Int32) × (Nat → Int32) × (Nat → Int32) × Int32 × Int32 × (Nat → Int32) × (Nat → Int64) × (Nat → Int32) × (Nat → Int32) × Int32) :=
  Option.bind (dn_X9_isWord t_tape_token t_tape_place t_tape_position t_tape_bytes 0) fun q1 =>
  if q1 = true then
    Option.bind (dn_X6_readPerson t_kind t_place t_tape_size t_tape_token t_tape_place t_tape_number t_tape_name t_tape_position t_tape_stop t_tape_bytes p1_persons p1_deals p1_born p1_dealNames p1_dies p1_limit p1_personNames) fun q19 =>
    some (q19.1, q19.2.2.2.2.2.2.1, q19.2.2.2.2.2.2.2.1, q19.2.1, q19.2.2.1, q19.2.2.2.1, q19.2.2.2.2.1, q19.2.2.2.2.2.1, t_partsTold, p1_toldParts, t_lawTold, p1_lawYears, p1_dealNames, p1_lender, p1_borrower, p1_year, p1_lenderGain, p1_borrowerGain, p1_either, p1_deals, t_limitsTold, q19.2.2.2.2.2.2.2.2.2.2.2.1, q19.2.2.2.2.2.2.2.2.1, q19.2.2.2.2.2.2.2.2.2.1, q19.2.2.2.2.2.2.2.2.2.2.1, q19.2.2.2.2.2.2.2.2.2.2.2.2)
  else
    Option.bind (dn_X9_isWord t_tape_token t_tape_place t_tape_position t_tape_bytes 1) fun q3 =>
    if q3 = true then
      Option.bind (dn_X6_readLimit t_kind t_place t_limitsTold t_tape_size t_tape_token t_tape_place t_tape_number t_tape_name t_tape_position t_tape_stop t_tape_bytes p1_persons p1_limit p1_personNames) fun q18 =>
      some (q18.1, q18.2.2.2.2.2.2.1, q18.2.2.2.2.2.2.2.1, q18.2.1, q18.2.2.1, q18.2.2.2.1, q18.2.2.2.2.1, q18.2.2.2.2.2.1, t_partsTold, p1_toldParts, t_lawTold, p1_lawYears, p1_dealNames, p1_lender, p1_borrower, p1_year, p1_lenderGain, p1_borrowerGain, p1_either, p1_deals, q18.2.2.2.2.2.2.2.2.1, q18.2.2.2.2.2.2.2.2.2, p1_personNames, p1_born, p1_dies, p1_persons)
    else
      Option.bind (dn_X9_isWord t_tape_token t_tape_place t_tape_position t_tape_bytes 2) fun q5 =>
      if q5 = true then
        Option.bind (dn_X6_readDeal t_kind t_place t_tape_size t_tape_token t_tape_place t_tape_number t_tape_name t_tape_position t_tape_stop t_tape_bytes p1_persons p1_deals p1_born p1_borrower p1_dealNames p1_dies p1_lender p1_personNames p1_year) fun q14 =>
        if q14.1 = true then
          Option.bind (dn_X6_readGains q14.2.2.2.2.2.2.1 q14.2.2.2.2.2.2.2.1 t_tape_size q14.2.2.2.2.2.1 q14.2.2.1 q14.2.2.2.1 q14.2.2.2.2.1 q14.2.1 t_tape_stop t_tape_bytes p1_deals p1_borrowerGain p1_either p1_lenderGain p1_deals) fun q16 =>
          if q16.1 = true then
            some (true, q16.2.2.2.2.2.2.1, q16.2.2.2.2.2.2.2.1, q16.2.1, q16.2.2.1, q16.2.2.2.1, q16.2.2.2.2.1, q16.2.2.2.2.2.1, t_partsTold, p1_toldParts, t_lawTold, p1_lawYears, q14.2.2.2.2.2.2.2.2.1, q14.2.2.2.2.2.2.2.2.2.1, q14.2.2.2.2.2.2.2.2.2.2.1, q14.2.2.2.2.2.2.2.2.2.2.2, q16.2.2.2.2.2.2.2.2.1, q16.2.2.2.2.2.2.2.2.2.1, q16.2.2.2.2.2.2.2.2.2.2.1, q16.2.2.2.2.2.2.2.2.2.2.2, t_limitsTold, p1_limit, p1_personNames, p1_born, p1_dies, p1_persons)
          else
            some (false, q16.2.2.2.2.2.2.1, q16.2.2.2.2.2.2.2.1, q16.2.1, q16.2.2.1, q16.2.2.2.1, q16.2.2.2.2.1, q16.2.2.2.2.2.1, t_partsTold, p1_toldParts, t_lawTold, p1_lawYears, q14.2.2.2.2.2.2.2.2.1, q14.2.2.2.2.2.2.2.2.2.1, q14.2.2.2.2.2.2.2.2.2.2.1, q14.2.2.2.2.2.2.2.2.2.2.2, q16.2.2.2.2.2.2.2.2.1, q16.2.2.2.2.2.2.2.2.2.1, q16.2.2.2.2.2.2.2.2.2.2.1, q16.2.2.2.2.2.2.2.2.2.2.2, t_limitsTold, p1_limit, p1_personNames, p1_born, p1_dies, p1_persons)
        else
          some (false, q14.2.2.2.2.2.2.1, q14.2.2.2.2.2.2.2.1, q14.2.1, q14.2.2.1, q14.2.2.2.1, q14.2.2.2.2.1, q14.2.2.2.2.2.1, t_partsTold, p1_toldParts, t_lawTold, p1_lawYears, q14.2.2.2.2.2.2.2.2.1, q14.2.2.2.2.2.2.2.2.2.1, q14.2.2.2.2.2.2.2.2.2.2.1, q14.2.2.2.2.2.2.2.2.2.2.2, p1_lenderGain, p1_borrowerGain, p1_either, p1_deals, t_limitsTold, p1_limit, p1_personNames, p1_born, p1_dies, p1_persons)
      else
        Option.bind (dn_X9_isWord t_tape_token t_tape_place t_tape_position t_tape_bytes 4) fun q7 =>
        if q7 = true then
          Option.bind (dn_X6_readLaw t_kind t_place t_lawTold t_tape_size t_tape_token t_tape_place t_tape_number t_tape_name t_tape_position t_tape_stop t_tape_bytes p1_lawYears) fun q13 =>
          some (q13.1, q13.2.2.2.2.2.2.2.1, q13.2.2.2.2.2.2.2.2.1, q13.2.2.1, q13.2.2.2.1, q13.2.2.2.2.1, q13.2.2.2.2.2.1, q13.2.2.2.2.2.2.1, t_partsTold, p1_toldParts, q13.2.1, q13.2.2.2.2.2.2.2.2.2, p1_dealNames, p1_lender, p1_borrower, p1_year, p1_lenderGain, p1_borrowerGain, p1_either, p1_deals, t_limitsTold, p1_limit, p1_personNames, p1_born, p1_dies, p1_persons)
        else
          Option.bind (dn_X9_isWord t_tape_token t_tape_place t_tape_position t_tape_bytes 7) fun q9 =>
          if q9 = true then
            Option.bind (dn_X6_readPart t_kind t_place t_partsTold t_tape_size t_tape_token t_tape_place t_tape_number t_tape_name t_tape_position t_tape_stop t_tape_bytes p1_persons p1_toldParts p1_personNames) fun q12 =>
            some (q12.1, q12.2.2.2.2.2.2.1, q12.2.2.2.2.2.2.2.1, q12.2.1, q12.2.2.1, q12.2.2.2.1, q12.2.2.2.2.1, q12.2.2.2.2.2.1, q12.2.2.2.2.2.2.2.2.1, q12.2.2.2.2.2.2.2.2.2, t_lawTold, p1_lawYears, p1_dealNames, p1_lender, p1_borrower, p1_year, p1_lenderGain, p1_borrowerGain, p1_either, p1_deals, t_limitsTold, p1_limit, p1_personNames, p1_born, p1_dies, p1_persons)
          else
            Option.bind (dn_X6_refuse t_tape_place 1) fun q11 =>
            some (q11.1, q11.2.1, q11.2.2, t_tape_position, t_tape_place, t_tape_number, t_tape_name, t_tape_token, t_partsTold, p1_toldParts, t_lawTold, p1_lawYears, p1_dealNames, p1_lender, p1_borrower, p1_year, p1_lenderGain, p1_borrowerGain, p1_either, p1_deals, t_limitsTold, p1_limit, p1_personNames, p1_born, p1_dies, p1_persons)
noncomputable def bd_X6_readTown_0 (t_tape_size : Int32) (t_tape_bytes : Nat → Int32) (v2 : Int32) (p1_persons : Int32) (p1_deals : Int32) (p1_lawYears : Int32) (p1_toldParts : Int32) (p1_memo_gains : Nat → Int32) (p1_memo_restCount : Int32) (p1_memo_lawfulGain : Int32) (t_limitsTold : Int32) (t_partsTold : Int32) (t_lawTold : Int32) (t_tape_position : Int32) (t_tape_stop : Int32) (t_lines : Int32) (t_kind : Int32) (t_place : Int32) (t_tape_place : Int32) (t_tape_number : Int32) (t_tape_name : Int64) (t_tape_token : Int32) (p1_dealNames : Nat → Int64) (p1_lender : Nat → Int32) (p1_borrower : Nat → Int32) (p1_year : Nat → Int32) (p1_lenderGain : Nat → Int32) (p1_borrowerGain : Nat → Int32) (p1_either : Nat → Int32) (p1_limit : Nat → Int32) (p1_personNames : Nat → Int64) (p1_born : Nat → Int32) (p1_dies : Nat → Int32) (p1_byYear : Nat → Int32) : Option (((Int32 × Int32 × Int32 × Int32 × Int32 × (Nat → Int32) × Int32 × Int32 × Int32 × Int32 × Int32 × Int32 × Int32 × Int32 × Int32 × Int32 × Int32 × Int32 × Int64 × Int32 × (Nat → Int64) × (Nat → Int32) × (Nat → Int32) × (Nat → Int32) × (Nat → Int32) × (Nat → Int32) × (Nat → Int32) × (Nat → Int32) × (Nat → Int64) × (Nat → Int32) × (Nat → Int32) × (Nat → Int32))) ⊕ (Bool × Int32 × Int32 × Int32 × Int32 × (Nat → Int32) × Int32 × Int32 × Int32 × Int32 × Int32 × Int32 × Int32 × Int32 × Int32 × Int32 × Int32 × Int32 × Int64 × Int32 × (Nat → Int64) × (Nat → Int32) × (Nat → Int32) × (Nat → Int32) × (Nat → Int32) × (Nat → Int32) × (Nat → Int32) × (Nat → Int32) × (Nat → Int64) × (Nat → Int32) × (Nat → Int32) × (Nat → Int32))) :=
  if (900 : Int32) < v2 then
    some (.inr (false, p1_persons, p1_deals, p1_lawYears, p1_toldParts, p1_memo_gains, p1_memo_restCount, p1_memo_lawfulGain, t_limitsTold, t_partsTold, t_lawTold, t_tape_position, t_tape_stop, t_lines, t_kind, t_place, t_tape_place, t_tape_number, t_tape_name, t_tape_token, p1_dealNames, p1_lender, p1_borrower, p1_year, p1_lenderGain, p1_borrowerGain, p1_either, p1_limit, p1_personNames, p1_born, p1_dies, p1_byYear))
  else
    Option.bind (dn_X9_next t_tape_size t_tape_token t_tape_place t_tape_number t_tape_name t_tape_position t_tape_stop t_tape_bytes) fun q4 =>
    if q4.2.2.2.2 = 0 then
      Option.bind (dn_X10_orderByYear p1_deals p1_byYear p1_year) fun q8 =>
      Option.bind (dn_X6_isWholeText t_kind t_place t_tape_size q4.2.1 900) fun q9 =>
      some (.inr (q9.1, p1_persons, p1_deals, p1_lawYears, p1_toldParts, p1_memo_gains, p1_memo_restCount, p1_memo_lawfulGain, t_limitsTold, t_partsTold, t_lawTold, q4.1, t_tape_stop, t_lines, q9.2.1, q9.2.2, q4.2.1, q4.2.2.1, q4.2.2.2.1, q4.2.2.2.2, p1_dealNames, p1_lender, p1_borrower, p1_year, p1_lenderGain, p1_borrowerGain, p1_either, p1_limit, p1_personNames, p1_born, p1_dies, q8))
    else
      Option.bind (dn_X6_readLine t_kind t_place t_limitsTold t_partsTold t_lawTold t_tape_size q4.2.2.2.2 q4.2.1 q4.2.2.1 q4.2.2.2.1 q4.1 t_tape_stop t_tape_bytes p1_persons p1_deals p1_lawYears p1_toldParts p1_born p1_borrower p1_borrowerGain p1_dealNames p1_dies p1_either p1_lender p1_lenderGain p1_limit p1_personNames p1_year) fun q6 =>
      if q6.1 = true then
        some (.inl (v2 + 1, q6.2.2.2.2.2.2.2.2.2.2.2.2.2.2.2.2.2.2.2.2.2.2.2.2.2, q6.2.2.2.2.2.2.2.2.2.2.2.2.2.2.2.2.2.2.2.1, q6.2.2.2.2.2.2.2.2.2.2.2.1, q6.2.2.2.2.2.2.2.2.2.1, p1_memo_gains, p1_memo_restCount, p1_memo_lawfulGain, q6.2.2.2.2.2.2.2.2.2.2.2.2.2.2.2.2.2.2.2.2.1, q6.2.2.2.2.2.2.2.2.1, q6.2.2.2.2.2.2.2.2.2.2.1, q6.2.2.2.1, t_tape_stop, t_lines + 1, q6.2.1, q6.2.2.1, q6.2.2.2.2.1, q6.2.2.2.2.2.1, q6.2.2.2.2.2.2.1, q6.2.2.2.2.2.2.2.1, q6.2.2.2.2.2.2.2.2.2.2.2.2.1, q6.2.2.2.2.2.2.2.2.2.2.2.2.2.1, q6.2.2.2.2.2.2.2.2.2.2.2.2.2.2.1, q6.2.2.2.2.2.2.2.2.2.2.2.2.2.2.2.1, q6.2.2.2.2.2.2.2.2.2.2.2.2.2.2.2.2.1, q6.2.2.2.2.2.2.2.2.2.2.2.2.2.2.2.2.2.1, q6.2.2.2.2.2.2.2.2.2.2.2.2.2.2.2.2.2.2.1, q6.2.2.2.2.2.2.2.2.2.2.2.2.2.2.2.2.2.2.2.2.2.1, q6.2.2.2.2.2.2.2.2.2.2.2.2.2.2.2.2.2.2.2.2.2.2.1, q6.2.2.2.2.2.2.2.2.2.2.2.2.2.2.2.2.2.2.2.2.2.2.2.1, q6.2.2.2.2.2.2.2.2.2.2.2.2.2.2.2.2.2.2.2.2.2.2.2.2.1, p1_byYear))
      else
        some (.inr (false, q6.2.2.2.2.2.2.2.2.2.2.2.2.2.2.2.2.2.2.2.2.2.2.2.2.2, q6.2.2.2.2.2.2.2.2.2.2.2.2.2.2.2.2.2.2.2.1, q6.2.2.2.2.2.2.2.2.2.2.2.1, q6.2.2.2.2.2.2.2.2.2.1, p1_memo_gains, p1_memo_restCount, p1_memo_lawfulGain, q6.2.2.2.2.2.2.2.2.2.2.2.2.2.2.2.2.2.2.2.2.1, q6.2.2.2.2.2.2.2.2.1, q6.2.2.2.2.2.2.2.2.2.2.1, q6.2.2.2.1, t_tape_stop, t_lines, q6.2.1, q6.2.2.1, q6.2.2.2.2.1, q6.2.2.2.2.2.1, q6.2.2.2.2.2.2.1, q6.2.2.2.2.2.2.2.1, q6.2.2.2.2.2.2.2.2.2.2.2.2.1, q6.2.2.2.2.2.2.2.2.2.2.2.2.2.1, q6.2.2.2.2.2.2.2.2.2.2.2.2.2.2.1, q6.2.2.2.2.2.2.2.2.2.2.2.2.2.2.2.1, q6.2.2.2.2.2.2.2.2.2.2.2.2.2.2.2.2.1, q6.2.2.2.2.2.2.2.2.2.2.2.2.2.2.2.2.2.1, q6.2.2.2.2.2.2.2.2.2.2.2.2.2.2.2.2.2.2.1, q6.2.2.2.2.2.2.2.2.2.2.2.2.2.2.2.2.2.2.2.2.2.1, q6.2.2.2.2.2.2.2.2.2.2.2.2.2.2.2.2.2.2.2.2.2.2.1, q6.2.2.2.2.2.2.2.2.2.2.2.2.2.2.2.2.2.2.2.2.2.2.2.1, q6.2.2.2.2.2.2.2.2.2.2.2.2.2.2.2.2.2.2.2.2.2.2.2.2.1, p1_byYear))
noncomputable def st_X6_readTown (t_tape_size : Int32) (t_tape_bytes : Nat → Int32) : ((Int32 × Int32 × Int32 × Int32 × Int32 × (Nat → Int32) × Int32 × Int32 × Int32 × Int32 × Int32 × Int32 × Int32 × Int32 × Int32 × Int32 × Int32 × Int32 × Int64 × Int32 × (Nat → Int64) × (Nat → Int32) × (Nat → Int32) × (Nat → Int32) × (Nat → Int32) × (Nat → Int32) × (Nat → Int32) × (Nat → Int32) × (Nat → Int64) × (Nat → Int32) × (Nat → Int32) × (Nat → Int32))) → Option (((Int32 × Int32 × Int32 × Int32 × Int32 × (Nat → Int32) × Int32 × Int32 × Int32 × Int32 × Int32 × Int32 × Int32 × Int32 × Int32 × Int32 × Int32 × Int32 × Int64 × Int32 × (Nat → Int64) × (Nat → Int32) × (Nat → Int32) × (Nat → Int32) × (Nat → Int32) × (Nat → Int32) × (Nat → Int32) × (Nat → Int32) × (Nat → Int64) × (Nat → Int32) × (Nat → Int32) × (Nat → Int32))) ⊕ (Bool × Int32 × Int32 × Int32 × Int32 × (Nat → Int32) × Int32 × Int32 × Int32 × Int32 × Int32 × Int32 × Int32 × Int32 × Int32 × Int32 × Int32 × Int32 × Int64 × Int32 × (Nat → Int64) × (Nat → Int32) × (Nat → Int32) × (Nat → Int32) × (Nat → Int32) × (Nat → Int32) × (Nat → Int32) × (Nat → Int32) × (Nat → Int64) × (Nat → Int32) × (Nat → Int32) × (Nat → Int32))) := fun s => match s with
  | (v2, p1_persons, p1_deals, p1_lawYears, p1_toldParts, p1_memo_gains, p1_memo_restCount, p1_memo_lawfulGain, t_limitsTold, t_partsTold, t_lawTold, t_tape_position, t_tape_stop, t_lines, t_kind, t_place, t_tape_place, t_tape_number, t_tape_name, t_tape_token, p1_dealNames, p1_lender, p1_borrower, p1_year, p1_lenderGain, p1_borrowerGain, p1_either, p1_limit, p1_personNames, p1_born, p1_dies, p1_byYear) => bd_X6_readTown_0 t_tape_size t_tape_bytes v2 p1_persons p1_deals p1_lawYears p1_toldParts p1_memo_gains p1_memo_restCount p1_memo_lawfulGain t_limitsTold t_partsTold t_lawTold t_tape_position t_tape_stop t_lines t_kind t_place t_tape_place t_tape_number t_tape_name t_tape_token p1_dealNames p1_lender p1_borrower p1_year p1_lenderGain p1_borrowerGain p1_either p1_limit p1_personNames p1_born p1_dies p1_byYear
noncomputable def gn_X6_readTown_0 (t_tape_size : Int32) (t_tape_bytes : Nat → Int32) (v2 : Int32) (p1_persons : Int32) (p1_deals : Int32) (p1_lawYears : Int32) (p1_toldParts : Int32) (p1_memo_gains : Nat → Int32) (p1_memo_restCount : Int32) (p1_memo_lawfulGain : Int32) (t_limitsTold : Int32) (t_partsTold : Int32) (t_lawTold : Int32) (t_tape_position : Int32) (t_tape_stop : Int32) (t_lines : Int32) (t_kind : Int32) (t_place : Int32) (t_tape_place : Int32) (t_tape_number : Int32) (t_tape_name : Int64) (t_tape_token : Int32) (p1_dealNames : Nat → Int64) (p1_lender : Nat → Int32) (p1_borrower : Nat → Int32) (p1_year : Nat → Int32) (p1_lenderGain : Nat → Int32) (p1_borrowerGain : Nat → Int32) (p1_either : Nat → Int32) (p1_limit : Nat → Int32) (p1_personNames : Nat → Int64) (p1_born : Nat → Int32) (p1_dies : Nat → Int32) (p1_byYear : Nat → Int32) : Option (Bool × Int32 × Int32 × Int32 × Int32 × (Nat → Int32) × Int32 × Int32 × Int32 × Int32 × Int32 × Int32 × Int32 × Int32 × Int32 × Int32 × Int32 × Int32 × Int64 × Int32 × (Nat → Int64) × (Nat → Int32) × (Nat → Int32) × (Nat → Int32) × (Nat → Int32) × (Nat → Int32) × (Nat → Int32) × (Nat → Int32) × (Nat → Int64) × (Nat → Int32) × (Nat → Int32) × (Nat → Int32)) := lpC (st_X6_readTown t_tape_size t_tape_bytes) ((v2, p1_persons, p1_deals, p1_lawYears, p1_toldParts, p1_memo_gains, p1_memo_restCount, p1_memo_lawfulGain, t_limitsTold, t_partsTold, t_lawTold, t_tape_position, t_tape_stop, t_lines, t_kind, t_place, t_tape_place, t_tape_number, t_tape_name, t_tape_token, p1_dealNames, p1_lender, p1_borrower, p1_year, p1_lenderGain, p1_borrowerGain, p1_either, p1_limit, p1_personNames, p1_born, p1_dies, p1_byYear))
theorem gq_X6_readTown_0 (t_tape_size : Int32) (t_tape_bytes : Nat → Int32) (v2 : Int32) (p1_persons : Int32) (p1_deals : Int32) (p1_lawYears : Int32) (p1_toldParts : Int32) (p1_memo_gains : Nat → Int32) (p1_memo_restCount : Int32) (p1_memo_lawfulGain : Int32) (t_limitsTold : Int32) (t_partsTold : Int32) (t_lawTold : Int32) (t_tape_position : Int32) (t_tape_stop : Int32) (t_lines : Int32) (t_kind : Int32) (t_place : Int32) (t_tape_place : Int32) (t_tape_number : Int32) (t_tape_name : Int64) (t_tape_token : Int32) (p1_dealNames : Nat → Int64) (p1_lender : Nat → Int32) (p1_borrower : Nat → Int32) (p1_year : Nat → Int32) (p1_lenderGain : Nat → Int32) (p1_borrowerGain : Nat → Int32) (p1_either : Nat → Int32) (p1_limit : Nat → Int32) (p1_personNames : Nat → Int64) (p1_born : Nat → Int32) (p1_dies : Nat → Int32) (p1_byYear : Nat → Int32) : gn_X6_readTown_0 t_tape_size t_tape_bytes v2 p1_persons p1_deals p1_lawYears p1_toldParts p1_memo_gains p1_memo_restCount p1_memo_lawfulGain t_limitsTold t_partsTold t_lawTold t_tape_position t_tape_stop t_lines t_kind t_place t_tape_place t_tape_number t_tape_name t_tape_token p1_dealNames p1_lender p1_borrower p1_year p1_lenderGain p1_borrowerGain p1_either p1_limit p1_personNames p1_born p1_dies p1_byYear =
    if (900 : Int32) < v2 then
      some (false, p1_persons, p1_deals, p1_lawYears, p1_toldParts, p1_memo_gains, p1_memo_restCount, p1_memo_lawfulGain, t_limitsTold, t_partsTold, t_lawTold, t_tape_position, t_tape_stop, t_lines, t_kind, t_place, t_tape_place, t_tape_number, t_tape_name, t_tape_token, p1_dealNames, p1_lender, p1_borrower, p1_year, p1_lenderGain, p1_borrowerGain, p1_either, p1_limit, p1_personNames, p1_born, p1_dies, p1_byYear)
    else
      Option.bind (dn_X9_next t_tape_size t_tape_token t_tape_place t_tape_number t_tape_name t_tape_position t_tape_stop t_tape_bytes) fun q4 =>
      if q4.2.2.2.2 = 0 then
        Option.bind (dn_X10_orderByYear p1_deals p1_byYear p1_year) fun q8 =>
        Option.bind (dn_X6_isWholeText t_kind t_place t_tape_size q4.2.1 900) fun q9 =>
        some (q9.1, p1_persons, p1_deals, p1_lawYears, p1_toldParts, p1_memo_gains, p1_memo_restCount, p1_memo_lawfulGain, t_limitsTold, t_partsTold, t_lawTold, q4.1, t_tape_stop, t_lines, q9.2.1, q9.2.2, q4.2.1, q4.2.2.1, q4.2.2.2.1, q4.2.2.2.2, p1_dealNames, p1_lender, p1_borrower, p1_year, p1_lenderGain, p1_borrowerGain, p1_either, p1_limit, p1_personNames, p1_born, p1_dies, q8)
      else
        Option.bind (dn_X6_readLine t_kind t_place t_limitsTold t_partsTold t_lawTold t_tape_size q4.2.2.2.2 q4.2.1 q4.2.2.1 q4.2.2.2.1 q4.1 t_tape_stop t_tape_bytes p1_persons p1_deals p1_lawYears p1_toldParts p1_born p1_borrower p1_borrowerGain p1_dealNames p1_dies p1_either p1_lender p1_lenderGain p1_limit p1_personNames p1_year) fun q6 =>
        if q6.1 = true then
          gn_X6_readTown_0 t_tape_size t_tape_bytes (v2 + 1) q6.2.2.2.2.2.2.2.2.2.2.2.2.2.2.2.2.2.2.2.2.2.2.2.2.2 q6.2.2.2.2.2.2.2.2.2.2.2.2.2.2.2.2.2.2.2.1 q6.2.2.2.2.2.2.2.2.2.2.2.1 q6.2.2.2.2.2.2.2.2.2.1 p1_memo_gains p1_memo_restCount p1_memo_lawfulGain q6.2.2.2.2.2.2.2.2.2.2.2.2.2.2.2.2.2.2.2.2.1 q6.2.2.2.2.2.2.2.2.1 q6.2.2.2.2.2.2.2.2.2.2.1 q6.2.2.2.1 t_tape_stop (t_lines + 1) q6.2.1 q6.2.2.1 q6.2.2.2.2.1 q6.2.2.2.2.2.1 q6.2.2.2.2.2.2.1 q6.2.2.2.2.2.2.2.1 q6.2.2.2.2.2.2.2.2.2.2.2.2.1 q6.2.2.2.2.2.2.2.2.2.2.2.2.2.1 q6.2.2.2.2.2.2.2.2.2.2.2.2.2.2.1 q6.2.2.2.2.2.2.2.2.2.2.2.2.2.2.2.1 q6.2.2.2.2.2.2.2.2.2.2.2.2.2.2.2.2.1 q6.2.2.2.2.2.2.2.2.2.2.2.2.2.2.2.2.2.1 q6.2.2.2.2.2.2.2.2.2.2.2.2.2.2.2.2.2.2.1 q6.2.2.2.2.2.2.2.2.2.2.2.2.2.2.2.2.2.2.2.2.2.1 q6.2.2.2.2.2.2.2.2.2.2.2.2.2.2.2.2.2.2.2.2.2.2.1 q6.2.2.2.2.2.2.2.2.2.2.2.2.2.2.2.2.2.2.2.2.2.2.2.1 q6.2.2.2.2.2.2.2.2.2.2.2.2.2.2.2.2.2.2.2.2.2.2.2.2.1 p1_byYear
        else
          some (false, q6.2.2.2.2.2.2.2.2.2.2.2.2.2.2.2.2.2.2.2.2.2.2.2.2.2, q6.2.2.2.2.2.2.2.2.2.2.2.2.2.2.2.2.2.2.2.1, q6.2.2.2.2.2.2.2.2.2.2.2.1, q6.2.2.2.2.2.2.2.2.2.1, p1_memo_gains, p1_memo_restCount, p1_memo_lawfulGain, q6.2.2.2.2.2.2.2.2.2.2.2.2.2.2.2.2.2.2.2.2.1, q6.2.2.2.2.2.2.2.2.1, q6.2.2.2.2.2.2.2.2.2.2.1, q6.2.2.2.1, t_tape_stop, t_lines, q6.2.1, q6.2.2.1, q6.2.2.2.2.1, q6.2.2.2.2.2.1, q6.2.2.2.2.2.2.1, q6.2.2.2.2.2.2.2.1, q6.2.2.2.2.2.2.2.2.2.2.2.2.1, q6.2.2.2.2.2.2.2.2.2.2.2.2.2.1, q6.2.2.2.2.2.2.2.2.2.2.2.2.2.2.1, q6.2.2.2.2.2.2.2.2.2.2.2.2.2.2.2.1, q6.2.2.2.2.2.2.2.2.2.2.2.2.2.2.2.2.1, q6.2.2.2.2.2.2.2.2.2.2.2.2.2.2.2.2.2.1, q6.2.2.2.2.2.2.2.2.2.2.2.2.2.2.2.2.2.2.1, q6.2.2.2.2.2.2.2.2.2.2.2.2.2.2.2.2.2.2.2.2.2.1, q6.2.2.2.2.2.2.2.2.2.2.2.2.2.2.2.2.2.2.2.2.2.2.1, q6.2.2.2.2.2.2.2.2.2.2.2.2.2.2.2.2.2.2.2.2.2.2.2.1, q6.2.2.2.2.2.2.2.2.2.2.2.2.2.2.2.2.2.2.2.2.2.2.2.2.1, p1_byYear) := by
  rw [gn_X6_readTown_0, lpC_eq]
  show lpO _ (bd_X6_readTown_0 t_tape_size t_tape_bytes v2 p1_persons p1_deals p1_lawYears p1_toldParts p1_memo_gains p1_memo_restCount p1_memo_lawfulGain t_limitsTold t_partsTold t_lawTold t_tape_position t_tape_stop t_lines t_kind t_place t_tape_place t_tape_number t_tape_name t_tape_token p1_dealNames p1_lender p1_borrower p1_year p1_lenderGain p1_borrowerGain p1_either p1_limit p1_personNames p1_born p1_dies p1_byYear) = _
  unfold bd_X6_readTown_0
  simp only [lpO_ite, lpO_bind, lpO_none, lpO_l, lpO_r]
  try rfl
noncomputable def dn_X6_readTown (t_tape_size : Int32) (t_tape_token : Int32) (t_tape_place : Int32) (t_tape_number : Int32) (t_tape_name : Int64) (t_tape_bytes : Nat → Int32) (p1_born : Nat → Int32) (p1_borrower : Nat → Int32) (p1_borrowerGain : Nat → Int32) (p1_byYear : Nat → Int32) (p1_dealNames : Nat → Int64) (p1_dies : Nat → Int32) (p1_either : Nat → Int32) (p1_lender : Nat → Int32) (p1_lenderGain : Nat → Int32) (p1_limit : Nat → Int32) (p1_memo_gains : Nat → Int32) (p1_personNames : Nat → Int64) (p1_year : Nat → Int32) : Option (Bool × Int32 × Int32 × Int32 × Int32 × (Nat → Int32) × Int32 × Int32 × Int32 × Int32 × Int32 × Int32 × Int32 × Int32 × Int32 × Int32 × Int32 × Int32 × Int64 × Int32 × (Nat → Int64) × (Nat → Int32) × (Nat → Int32) × (Nat → Int32) × (Nat → Int32) × (Nat → Int32) × (Nat → Int32) × (Nat → Int32) × (Nat → Int64) × (Nat → Int32) × (Nat → Int32) × (Nat → Int32)) :=
  Option.bind (dn_X10_clear p1_memo_gains) fun q1 =>
  Option.bind (dn_X6_start t_tape_size 900) fun q2 =>
  gn_X6_readTown_0 t_tape_size t_tape_bytes 0 q1.1 q1.2.1 q1.2.2.1 q1.2.2.2.1 q1.2.2.2.2.1 q1.2.2.2.2.2.1 q1.2.2.2.2.2.2 0 0 0 q2.1 q2.2.1 q2.2.2.1 q2.2.2.2.1 q2.2.2.2.2 t_tape_place t_tape_number t_tape_name t_tape_token p1_dealNames p1_lender p1_borrower p1_year p1_lenderGain p1_borrowerGain p1_either p1_limit p1_personNames p1_born p1_dies p1_byYear
noncomputable def bd_X6_readBookLine_0 (t_lines : Int32) (v2 : Int32) (v3 : Int32) (t_tape_position : Int32) (t_tape_place : Int32) (t_tape_number : Int32) (t_tape_name : Int64) (t_tape_token : Int32) (t_kind : Int32) (t_place : Int32) (t_bookDeals : Nat → Int32) (t_bookWays : Nat → Int32) : Option (((Int32 × Int32 × Int32 × Int32 × Int32 × Int64 × Int32 × Int32 × Int32 × (Nat → Int32) × (Nat → Int32))) ⊕ (Bool × Int32 × Int32 × Int32 × Int64 × Int32 × Int32 × Int32 × (Nat → Int32) × (Nat → Int32))) :=
  if inb t_lines 40 = true then
  if v3 = 0 then
    if inb t_lines 40 = true then
    Option.bind (dn_X6_atSemicolon t_kind t_place t_tape_token t_tape_place) fun q16 =>
    some (.inr (q16.1, t_tape_position, t_tape_place, t_tape_number, t_tape_name, t_tape_token, q16.2.1, q16.2.2, upd t_bookDeals (t_lines).toNatClampNeg v2, upd t_bookWays (t_lines).toNatClampNeg 1))
    else none
  else
    if inb t_lines 40 = true then
    Option.bind (dn_X6_atSemicolon t_kind t_place t_tape_token t_tape_place) fun q18 =>
    some (.inr (q18.1, t_tape_position, t_tape_place, t_tape_number, t_tape_name, t_tape_token, q18.2.1, q18.2.2, upd t_bookDeals (t_lines).toNatClampNeg v2, upd t_bookWays (t_lines).toNatClampNeg 2))
    else none
  else none
noncomputable def st_X6_readBookLine (t_lines : Int32) : ((Int32 × Int32 × Int32 × Int32 × Int32 × Int64 × Int32 × Int32 × Int32 × (Nat → Int32) × (Nat → Int32))) → Option (((Int32 × Int32 × Int32 × Int32 × Int32 × Int64 × Int32 × Int32 × Int32 × (Nat → Int32) × (Nat → Int32))) ⊕ (Bool × Int32 × Int32 × Int32 × Int64 × Int32 × Int32 × Int32 × (Nat → Int32) × (Nat → Int32))) := fun s => match s with
  | (v2, v3, t_tape_position, t_tape_place, t_tape_number, t_tape_name, t_tape_token, t_kind, t_place, t_bookDeals, t_bookWays) => bd_X6_readBookLine_0 t_lines v2 v3 t_tape_position t_tape_place t_tape_number t_tape_name t_tape_token t_kind t_place t_bookDeals t_bookWays
noncomputable def gn_X6_readBookLine_0 (t_lines : Int32) (v2 : Int32) (v3 : Int32) (t_tape_position : Int32) (t_tape_place : Int32) (t_tape_number : Int32) (t_tape_name : Int64) (t_tape_token : Int32) (t_kind : Int32) (t_place : Int32) (t_bookDeals : Nat → Int32) (t_bookWays : Nat → Int32) : Option (Bool × Int32 × Int32 × Int32 × Int64 × Int32 × Int32 × Int32 × (Nat → Int32) × (Nat → Int32)) := lpC (st_X6_readBookLine t_lines) ((v2, v3, t_tape_position, t_tape_place, t_tape_number, t_tape_name, t_tape_token, t_kind, t_place, t_bookDeals, t_bookWays))
theorem gq_X6_readBookLine_0 (t_lines : Int32) (v2 : Int32) (v3 : Int32) (t_tape_position : Int32) (t_tape_place : Int32) (t_tape_number : Int32) (t_tape_name : Int64) (t_tape_token : Int32) (t_kind : Int32) (t_place : Int32) (t_bookDeals : Nat → Int32) (t_bookWays : Nat → Int32) : gn_X6_readBookLine_0 t_lines v2 v3 t_tape_position t_tape_place t_tape_number t_tape_name t_tape_token t_kind t_place t_bookDeals t_bookWays =
    if inb t_lines 40 = true then
    if v3 = 0 then
      if inb t_lines 40 = true then
      Option.bind (dn_X6_atSemicolon t_kind t_place t_tape_token t_tape_place) fun q16 =>
      some (q16.1, t_tape_position, t_tape_place, t_tape_number, t_tape_name, t_tape_token, q16.2.1, q16.2.2, upd t_bookDeals (t_lines).toNatClampNeg v2, upd t_bookWays (t_lines).toNatClampNeg 1)
      else none
    else
      if inb t_lines 40 = true then
      Option.bind (dn_X6_atSemicolon t_kind t_place t_tape_token t_tape_place) fun q18 =>
      some (q18.1, t_tape_position, t_tape_place, t_tape_number, t_tape_name, t_tape_token, q18.2.1, q18.2.2, upd t_bookDeals (t_lines).toNatClampNeg v2, upd t_bookWays (t_lines).toNatClampNeg 2)
      else none
    else none := by
  rw [gn_X6_readBookLine_0, lpC_eq]
  show lpO _ (bd_X6_readBookLine_0 t_lines v2 v3 t_tape_position t_tape_place t_tape_number t_tape_name t_tape_token t_kind t_place t_bookDeals t_bookWays) = _
  unfold bd_X6_readBookLine_0
  simp only [lpO_ite, lpO_bind, lpO_none, lpO_l, lpO_r]
  try rfl
noncomputable def dn_X6_readBookLine (t_lines : Int32) (t_kind : Int32) (t_place : Int32) (t_bookDeals : Nat → Int32) (t_bookWays : Nat → Int32) (t_tape_size : Int32) (t_tape_token : Int32) (t_tape_place : Int32) (t_tape_number : Int32) (t_tape_name : Int64) (t_tape_position : Int32) (t_tape_stop : Int32) (t_tape_bytes : Nat → Int32) (p1_deals : Int32) (p1_dealNames : Nat → Int64) : Option (Bool × Int32 × Int32 × Int32 × Int64 × Int32 × Int32 × Int32 × (Nat → Int32) × (Nat → Int32)) :=
  Option.bind (dn_X9_isName t_tape_token t_tape_place t_tape_position t_tape_bytes) fun q1 =>
  if q1 = true then
    Option.bind (dn_X10_findDeal p1_deals p1_dealNames t_tape_name) fun q3 =>
    if q3 = (-1) then
      Option.bind (dn_X6_refuse t_tape_place 3) fun q11 =>
      some (q11.1, t_tape_position, t_tape_place, t_tape_number, t_tape_name, t_tape_token, q11.2.1, q11.2.2, t_bookDeals, t_bookWays)
    else
      if t_lines < 40 then
        Option.bind (dn_X9_next t_tape_size t_tape_token t_tape_place t_tape_number t_tape_name t_tape_position t_tape_stop t_tape_bytes) fun q6 =>
        Option.bind (dn_X9_isWord q6.2.2.2.2 q6.2.1 q6.1 t_tape_bytes 10) fun q7 =>
        if q7 = true then
          Option.bind (dn_X9_next t_tape_size q6.2.2.2.2 q6.2.1 q6.2.2.1 q6.2.2.2.1 q6.1 t_tape_stop t_tape_bytes) fun q9 =>
          gn_X6_readBookLine_0 t_lines q3 (b2i q7) q9.1 q9.2.1 q9.2.2.1 q9.2.2.2.1 q9.2.2.2.2 t_kind t_place t_bookDeals t_bookWays
        else
          gn_X6_readBookLine_0 t_lines q3 (b2i q7) q6.1 q6.2.1 q6.2.2.1 q6.2.2.2.1 q6.2.2.2.2 t_kind t_place t_bookDeals t_bookWays
      else
        Option.bind (dn_X6_refuse t_tape_place 4) fun q10 =>
        some (q10.1, t_tape_position, t_tape_place, t_tape_number, t_tape_name, t_tape_token, q10.2.1, q10.2.2, t_bookDeals, t_bookWays)
  else
    Option.bind (dn_X6_refuse t_tape_place 1) fun q12 =>
    some (q12.1, t_tape_position, t_tape_place, t_tape_number, t_tape_name, t_tape_token, q12.2.1, q12.2.2, t_bookDeals, t_bookWays)
noncomputable def bd_X6_readBook_0 (t_tape_size : Int32) (t_tape_bytes : Nat → Int32) (p1_deals : Int32) (p1_dealNames : Nat → Int64) (v2 : Int32) (t_tape_position : Int32) (t_tape_stop : Int32) (t_lines : Int32) (t_kind : Int32) (t_place : Int32) (t_tape_place : Int32) (t_tape_number : Int32) (t_tape_name : Int64) (t_tape_token : Int32) (t_bookDeals : Nat → Int32) (t_bookWays : Nat → Int32) : Option (((Int32 × Int32 × Int32 × Int32 × Int32 × Int32 × Int32 × Int32 × Int64 × Int32 × (Nat → Int32) × (Nat → Int32))) ⊕ (Bool × Int32 × Int32 × Int32 × Int32 × Int32 × Int32 × Int32 × Int64 × Int32 × (Nat → Int32) × (Nat → Int32))) :=
  if (600 : Int32) < v2 then
    some (.inr (false, t_tape_position, t_tape_stop, t_lines, t_kind, t_place, t_tape_place, t_tape_number, t_tape_name, t_tape_token, t_bookDeals, t_bookWays))
  else
    Option.bind (dn_X9_next t_tape_size t_tape_token t_tape_place t_tape_number t_tape_name t_tape_position t_tape_stop t_tape_bytes) fun q3 =>
    if q3.2.2.2.2 = 0 then
      Option.bind (dn_X6_isWholeText t_kind t_place t_tape_size q3.2.1 600) fun q7 =>
      some (.inr (q7.1, q3.1, t_tape_stop, t_lines, q7.2.1, q7.2.2, q3.2.1, q3.2.2.1, q3.2.2.2.1, q3.2.2.2.2, t_bookDeals, t_bookWays))
    else
      Option.bind (dn_X6_readBookLine t_lines t_kind t_place t_bookDeals t_bookWays t_tape_size q3.2.2.2.2 q3.2.1 q3.2.2.1 q3.2.2.2.1 q3.1 t_tape_stop t_tape_bytes p1_deals p1_dealNames) fun q5 =>
      if q5.1 = true then
        some (.inl (v2 + 1, q5.2.1, t_tape_stop, t_lines + 1, q5.2.2.2.2.2.2.1, q5.2.2.2.2.2.2.2.1, q5.2.2.1, q5.2.2.2.1, q5.2.2.2.2.1, q5.2.2.2.2.2.1, q5.2.2.2.2.2.2.2.2.1, q5.2.2.2.2.2.2.2.2.2))
      else
        some (.inr (false, q5.2.1, t_tape_stop, t_lines, q5.2.2.2.2.2.2.1, q5.2.2.2.2.2.2.2.1, q5.2.2.1, q5.2.2.2.1, q5.2.2.2.2.1, q5.2.2.2.2.2.1, q5.2.2.2.2.2.2.2.2.1, q5.2.2.2.2.2.2.2.2.2))
noncomputable def st_X6_readBook (t_tape_size : Int32) (t_tape_bytes : Nat → Int32) (p1_deals : Int32) (p1_dealNames : Nat → Int64) : ((Int32 × Int32 × Int32 × Int32 × Int32 × Int32 × Int32 × Int32 × Int64 × Int32 × (Nat → Int32) × (Nat → Int32))) → Option (((Int32 × Int32 × Int32 × Int32 × Int32 × Int32 × Int32 × Int32 × Int64 × Int32 × (Nat → Int32) × (Nat → Int32))) ⊕ (Bool × Int32 × Int32 × Int32 × Int32 × Int32 × Int32 × Int32 × Int64 × Int32 × (Nat → Int32) × (Nat → Int32))) := fun s => match s with
  | (v2, t_tape_position, t_tape_stop, t_lines, t_kind, t_place, t_tape_place, t_tape_number, t_tape_name, t_tape_token, t_bookDeals, t_bookWays) => bd_X6_readBook_0 t_tape_size t_tape_bytes p1_deals p1_dealNames v2 t_tape_position t_tape_stop t_lines t_kind t_place t_tape_place t_tape_number t_tape_name t_tape_token t_bookDeals t_bookWays
noncomputable def gn_X6_readBook_0 (t_tape_size : Int32) (t_tape_bytes : Nat → Int32) (p1_deals : Int32) (p1_dealNames : Nat → Int64) (v2 : Int32) (t_tape_position : Int32) (t_tape_stop : Int32) (t_lines : Int32) (t_kind : Int32) (t_place : Int32) (t_tape_place : Int32) (t_tape_number : Int32) (t_tape_name : Int64) (t_tape_token : Int32) (t_bookDeals : Nat → Int32) (t_bookWays : Nat → Int32) : Option (Bool × Int32 × Int32 × Int32 × Int32 × Int32 × Int32 × Int32 × Int64 × Int32 × (Nat → Int32) × (Nat → Int32)) := lpC (st_X6_readBook t_tape_size t_tape_bytes p1_deals p1_dealNames) ((v2, t_tape_position, t_tape_stop, t_lines, t_kind, t_place, t_tape_place, t_tape_number, t_tape_name, t_tape_token, t_bookDeals, t_bookWays))
theorem gq_X6_readBook_0 (t_tape_size : Int32) (t_tape_bytes : Nat → Int32) (p1_deals : Int32) (p1_dealNames : Nat → Int64) (v2 : Int32) (t_tape_position : Int32) (t_tape_stop : Int32) (t_lines : Int32) (t_kind : Int32) (t_place : Int32) (t_tape_place : Int32) (t_tape_number : Int32) (t_tape_name : Int64) (t_tape_token : Int32) (t_bookDeals : Nat → Int32) (t_bookWays : Nat → Int32) : gn_X6_readBook_0 t_tape_size t_tape_bytes p1_deals p1_dealNames v2 t_tape_position t_tape_stop t_lines t_kind t_place t_tape_place t_tape_number t_tape_name t_tape_token t_bookDeals t_bookWays =
    if (600 : Int32) < v2 then
      some (false, t_tape_position, t_tape_stop, t_lines, t_kind, t_place, t_tape_place, t_tape_number, t_tape_name, t_tape_token, t_bookDeals, t_bookWays)
    else
      Option.bind (dn_X9_next t_tape_size t_tape_token t_tape_place t_tape_number t_tape_name t_tape_position t_tape_stop t_tape_bytes) fun q3 =>
      if q3.2.2.2.2 = 0 then
        Option.bind (dn_X6_isWholeText t_kind t_place t_tape_size q3.2.1 600) fun q7 =>
        some (q7.1, q3.1, t_tape_stop, t_lines, q7.2.1, q7.2.2, q3.2.1, q3.2.2.1, q3.2.2.2.1, q3.2.2.2.2, t_bookDeals, t_bookWays)
      else
        Option.bind (dn_X6_readBookLine t_lines t_kind t_place t_bookDeals t_bookWays t_tape_size q3.2.2.2.2 q3.2.1 q3.2.2.1 q3.2.2.2.1 q3.1 t_tape_stop t_tape_bytes p1_deals p1_dealNames) fun q5 =>
        if q5.1 = true then
          gn_X6_readBook_0 t_tape_size t_tape_bytes p1_deals p1_dealNames (v2 + 1) q5.2.1 t_tape_stop (t_lines + 1) q5.2.2.2.2.2.2.1 q5.2.2.2.2.2.2.2.1 q5.2.2.1 q5.2.2.2.1 q5.2.2.2.2.1 q5.2.2.2.2.2.1 q5.2.2.2.2.2.2.2.2.1 q5.2.2.2.2.2.2.2.2.2
        else
          some (false, q5.2.1, t_tape_stop, t_lines, q5.2.2.2.2.2.2.1, q5.2.2.2.2.2.2.2.1, q5.2.2.1, q5.2.2.2.1, q5.2.2.2.2.1, q5.2.2.2.2.2.1, q5.2.2.2.2.2.2.2.2.1, q5.2.2.2.2.2.2.2.2.2) := by
  rw [gn_X6_readBook_0, lpC_eq]
  show lpO _ (bd_X6_readBook_0 t_tape_size t_tape_bytes p1_deals p1_dealNames v2 t_tape_position t_tape_stop t_lines t_kind t_place t_tape_place t_tape_number t_tape_name t_tape_token t_bookDeals t_bookWays) = _
  unfold bd_X6_readBook_0
  simp only [lpO_ite, lpO_bind, lpO_none, lpO_l, lpO_r]
  try rfl
noncomputable def dn_X6_readBook (t_bookDeals : Nat → Int32) (t_bookWays : Nat → Int32) (t_tape_size : Int32) (t_tape_token : Int32) (t_tape_place : Int32) (t_tape_number : Int32) (t_tape_name : Int64) (t_tape_bytes : Nat → Int32) (p1_deals : Int32) (p1_dealNames : Nat → Int64) : Option (Bool × Int32 × Int32 × Int32 × Int32 × Int32 × Int32 × Int32 × Int64 × Int32 × (Nat → Int32) × (Nat → Int32)) :=
  Option.bind (dn_X6_start t_tape_size 600) fun q1 =>
  gn_X6_readBook_0 t_tape_size t_tape_bytes p1_deals p1_dealNames 0 q1.1 q1.2.1 q1.2.2.1 q1.2.2.2.1 q1.2.2.2.2 t_tape_place t_tape_number t_tape_name t_tape_token t_bookDeals t_bookWays
noncomputable def dn_X8_copyFrom (t_book_deal : Nat → Int32) (t_book_foundNothing : Nat → Int32) (t_book_way : Nat → Int32) (t_town_born : Nat → Int32) (t_town_borrower : Nat → Int32) (t_town_borrowerGain : Nat → Int32) (t_town_byYear : Nat → Int32) (t_town_dealNames : Nat → Int64) (t_town_dies : Nat → Int32) (t_town_either : Nat → Int32) (t_town_lender : Nat → Int32) (t_town_lenderGain : Nat → Int32) (t_town_limit : Nat → Int32) (t_town_memo_gains : Nat → Int32) (t_town_memo_lawfulWays : Nat → Int32) (t_town_memo_rests : Nat → Int32) (t_town_personNames : Nat → Int64) (t_town_year : Nat → Int32) (p1_book_size : Int32) (p1_book_deal : Nat → Int32) (p1_book_foundNothing : Nat → Int32) (p1_book_way : Nat → Int32) (p1_town_persons : Int32) (p1_town_deals : Int32) (p1_town_lawYears : Int32) (p1_town_toldParts : Int32) (p1_town_born : Nat → Int32) (p1_town_borrower : Nat → Int32) (p1_town_borrowerGain : Nat → Int32) (p1_town_byYear : Nat → Int32) (p1_town_dealNames : Nat → Int64) (p1_town_dies : Nat → Int32) (p1_town_either : Nat → Int32) (p1_town_lender : Nat → Int32) (p1_town_lenderGain : Nat → Int32) (p1_town_limit : Nat → Int32) (p1_town_memo_restCount : Int32) (p1_town_memo_lawfulGain : Int32) (p1_town_memo_gains : Nat → Int32) (p1_town_memo_lawfulWays : Nat → Int32) (p1_town_memo_rests : Nat → Int32) (p1_town_personNames : Nat → Int64) (p1_town_year : Nat → Int32) : Option (Int32 × Int32 × Int32 × Int32 × (Nat → Int64) × (Nat → Int32) × (Nat → Int32) × (Nat → Int32) × (Nat → Int64) × (Nat → Int32) × (Nat → Int32) × (Nat → Int32) × (Nat → Int32) × (Nat → Int32) × (Nat → Int32) × (Nat → Int32) × (Nat → Int32) × (Nat → Int32) × (Nat → Int32) × Int32 × Int32 × (Nat → Int32) × (Nat → Int32) × (Nat → Int32) × Int32) :=
  Option.bind (dn_X10_copyFrom t_town_born t_town_borrower t_town_borrowerGain t_town_byYear t_town_dealNames t_town_dies t_town_either t_town_lender t_town_lenderGain t_town_limit t_town_memo_gains t_town_memo_lawfulWays t_town_memo_rests t_town_personNames t_town_year p1_town_persons p1_town_deals p1_town_lawYears p1_town_toldParts p1_town_born p1_town_borrower p1_town_borrowerGain p1_town_byYear p1_town_dealNames p1_town_dies p1_town_either p1_town_lender p1_town_lenderGain p1_town_limit p1_town_memo_restCount p1_town_memo_lawfulGain p1_town_memo_gains p1_town_memo_lawfulWays p1_town_memo_rests p1_town_personNames p1_town_year) fun q1 =>
  Option.bind (dn_X0_copyFrom t_book_deal t_book_foundNothing t_book_way p1_book_size p1_book_deal p1_book_foundNothing p1_book_way) fun q2 =>
  some (q1.1, q1.2.1, q1.2.2.1, q1.2.2.2.1, q1.2.2.2.2.1, q1.2.2.2.2.2.1, q1.2.2.2.2.2.2.1, q1.2.2.2.2.2.2.2.1, q1.2.2.2.2.2.2.2.2.1, q1.2.2.2.2.2.2.2.2.2.1, q1.2.2.2.2.2.2.2.2.2.2.1, q1.2.2.2.2.2.2.2.2.2.2.2.1, q1.2.2.2.2.2.2.2.2.2.2.2.2.1, q1.2.2.2.2.2.2.2.2.2.2.2.2.2.1, q1.2.2.2.2.2.2.2.2.2.2.2.2.2.2.1, q1.2.2.2.2.2.2.2.2.2.2.2.2.2.2.2.1, q1.2.2.2.2.2.2.2.2.2.2.2.2.2.2.2.2.1, q1.2.2.2.2.2.2.2.2.2.2.2.2.2.2.2.2.2.1, q1.2.2.2.2.2.2.2.2.2.2.2.2.2.2.2.2.2.2.1, q1.2.2.2.2.2.2.2.2.2.2.2.2.2.2.2.2.2.2.2.1, q1.2.2.2.2.2.2.2.2.2.2.2.2.2.2.2.2.2.2.2.2, q2.1, q2.2.1, q2.2.2.1, q2.2.2.2)
