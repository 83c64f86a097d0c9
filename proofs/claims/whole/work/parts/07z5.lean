noncomputable def dn_X11_feed (t_tape_size : Int32) (t_tape_bytes : Nat → Int32) (p1 : Int32) (p2 : Int32) (p3 : Int32) (p4 : Int32) (p5 : Int32) : Option (Int32 × (Nat → Int32) × Int32) :=
  Option.bind (dn_X9_hasRoomFor t_tape_size 20) fun q1 =>
  if q1 = true then
    Option.bind (dn_X9_addNumber t_tape_size t_tape_bytes p1) fun q3 =>
    Option.bind (dn_X9_addNumber q3.2 q3.1 p2) fun q4 =>
    Option.bind (dn_X9_addNumber q4.2 q4.1 p3) fun q5 =>
    Option.bind (dn_X9_addNumber q5.2 q5.1 p4) fun q6 =>
    Option.bind (dn_X9_addNumber q6.2 q6.1 p5) fun q7 =>
    some (q7.2, q7.1, q7.2)
  else
    some ((-1), t_tape_bytes, t_tape_size)
noncomputable def dn_X11_end (t_tape_size : Int32) (p1 : Int32) : Option (Bool × Int32) :=
  if p1 < 0 then
    some (false, t_tape_size)
  else
    if p1 ≤ t_tape_size then
      Option.bind (dn_X9_cut p1) fun q3 =>
      some (true, q3)
    else
      some (false, t_tape_size)
noncomputable def dn_X11_fault (t_reader_kind : Int32) : Option (Int32) :=
  some t_reader_kind
noncomputable def dn_X11_does (t_now_book_size : Int32) (t_now_book_deal : Nat → Int32) (t_now_book_foundNothing : Nat → Int32) (t_now_book_way : Nat → Int32) (t_now_town_deals : Int32) (t_now_town_lawYears : Int32) (t_now_town_borrower : Nat → Int32) (t_now_town_either : Nat → Int32) (t_now_town_lender : Nat → Int32) (t_now_town_limit : Nat → Int32) (t_now_town_year : Nat → Int32) (p1 : Int32) (p2 : Int32) : Option (Int32 × (Nat → Int32) × (Nat → Int32) × (Nat → Int32) × Int32) :=
  Option.bind (dn_X10_hasDeal t_now_town_deals p1) fun q1 =>
  if q1 = true then
    if p2 < 0 then
      some ((-1), t_now_book_deal, t_now_book_way, t_now_book_foundNothing, t_now_book_size)
    else
      if p2 ≤ 1 then
        if p2 = 1 then
          Option.bind (dn_X0_tryDeal t_now_book_size t_now_book_deal t_now_book_foundNothing t_now_book_way t_now_town_lawYears t_now_town_borrower t_now_town_either t_now_town_lender t_now_town_limit t_now_town_year p1 2) fun q7 =>
          some (q7.1, q7.2.1, q7.2.2.1, q7.2.2.2.1, q7.2.2.2.2)
        else
          Option.bind (dn_X0_tryDeal t_now_book_size t_now_book_deal t_now_book_foundNothing t_now_book_way t_now_town_lawYears t_now_town_borrower t_now_town_either t_now_town_lender t_now_town_limit t_now_town_year p1 1) fun q6 =>
          some (q6.1, q6.2.1, q6.2.2.1, q6.2.2.2.1, q6.2.2.2.2)
      else
        some ((-1), t_now_book_deal, t_now_book_way, t_now_book_foundNothing, t_now_book_size)
  else
    some ((-1), t_now_book_deal, t_now_book_way, t_now_book_foundNothing, t_now_book_size)
noncomputable def dn_X11_undo (t_now_book_size : Int32) : Option (Int32 × Int32) :=
  if t_now_book_size = 0 then
    some ((-1), t_now_book_size)
  else
    Option.bind (dn_X0_dropLast t_now_book_size) fun q2 =>
    some (q2, q2)
noncomputable def bd_X11_book_0 (t_now_town_lawYears : Int32) (t_now_town_borrower : Nat → Int32) (t_now_town_either : Nat → Int32) (t_now_town_lender : Nat → Int32) (t_now_town_limit : Nat → Int32) (t_now_town_year : Nat → Int32) (v2 : Int32) (t_whyWrong : Int32) (t_tape_position : Int32) (t_tape_stop : Int32) (t_reader_lines : Int32) (t_reader_kind : Int32) (t_reader_place : Int32) (t_tape_place : Int32) (t_tape_number : Int32) (t_tape_name : Int64) (t_tape_token : Int32) (t_reader_bookDeals : Nat → Int32) (t_reader_bookWays : Nat → Int32) (t_tape_size : Int32) (t_now_book_size : Int32) (t_now_book_deal : Nat → Int32) (t_now_book_way : Nat → Int32) (t_now_book_foundNothing : Nat → Int32) : Option (((Int32 × Int32 × Int32 × Int32 × Int32 × Int32 × Int32 × Int32 × Int32 × Int64 × Int32 × (Nat → Int32) × (Nat → Int32) × Int32 × Int32 × (Nat → Int32) × (Nat → Int32) × (Nat → Int32))) ⊕ (Int32 × Int32 × Int32 × Int32 × Int32 × Int32 × Int32 × Int32 × Int32 × Int64 × Int32 × (Nat → Int32) × (Nat → Int32) × Int32 × Int32 × (Nat → Int32) × (Nat → Int32) × (Nat → Int32))) :=
  if t_reader_lines ≤ v2 then
    some (.inr ((-1), t_whyWrong, t_tape_position, t_tape_stop, t_reader_lines, t_reader_kind, t_reader_place, t_tape_place, t_tape_number, t_tape_name, t_tape_token, t_reader_bookDeals, t_reader_bookWays, t_tape_size, t_now_book_size, t_now_book_deal, t_now_book_way, t_now_book_foundNothing))
  else
    if inb v2 40 = true then
    if inb v2 40 = true then
    Option.bind (dn_X0_tryDeal t_now_book_size t_now_book_deal t_now_book_foundNothing t_now_book_way t_now_town_lawYears t_now_town_borrower t_now_town_either t_now_town_lender t_now_town_limit t_now_town_year (t_reader_bookDeals (v2).toNatClampNeg) (t_reader_bookWays (v2).toNatClampNeg)) fun q8 =>
    if q8.1 = 0 then
      some (.inl (v2 + 1, q8.1, t_tape_position, t_tape_stop, t_reader_lines, t_reader_kind, t_reader_place, t_tape_place, t_tape_number, t_tape_name, t_tape_token, t_reader_bookDeals, t_reader_bookWays, t_tape_size, q8.2.2.2.2, q8.2.1, q8.2.2.1, q8.2.2.2.1))
    else
      some (.inr (v2, q8.1, t_tape_position, t_tape_stop, t_reader_lines, t_reader_kind, t_reader_place, t_tape_place, t_tape_number, t_tape_name, t_tape_token, t_reader_bookDeals, t_reader_bookWays, t_tape_size, q8.2.2.2.2, q8.2.1, q8.2.2.1, q8.2.2.2.1))
    else none
    else none
noncomputable def st_X11_book (t_now_town_lawYears : Int32) (t_now_town_borrower : Nat → Int32) (t_now_town_either : Nat → Int32) (t_now_town_lender : Nat → Int32) (t_now_town_limit : Nat → Int32) (t_now_town_year : Nat → Int32) : ((Int32 × Int32 × Int32 × Int32 × Int32 × Int32 × Int32 × Int32 × Int32 × Int64 × Int32 × (Nat → Int32) × (Nat → Int32) × Int32 × Int32 × (Nat → Int32) × (Nat → Int32) × (Nat → Int32))) → Option (((Int32 × Int32 × Int32 × Int32 × Int32 × Int32 × Int32 × Int32 × Int32 × Int64 × Int32 × (Nat → Int32) × (Nat → Int32) × Int32 × Int32 × (Nat → Int32) × (Nat → Int32) × (Nat → Int32))) ⊕ (Int32 × Int32 × Int32 × Int32 × Int32 × Int32 × Int32 × Int32 × Int32 × Int64 × Int32 × (Nat → Int32) × (Nat → Int32) × Int32 × Int32 × (Nat → Int32) × (Nat → Int32) × (Nat → Int32))) := fun s => match s with
  | (v2, t_whyWrong, t_tape_position, t_tape_stop, t_reader_lines, t_reader_kind, t_reader_place, t_tape_place, t_tape_number, t_tape_name, t_tape_token, t_reader_bookDeals, t_reader_bookWays, t_tape_size, t_now_book_size, t_now_book_deal, t_now_book_way, t_now_book_foundNothing) => bd_X11_book_0 t_now_town_lawYears t_now_town_borrower t_now_town_either t_now_town_lender t_now_town_limit t_now_town_year v2 t_whyWrong t_tape_position t_tape_stop t_reader_lines t_reader_kind t_reader_place t_tape_place t_tape_number t_tape_name t_tape_token t_reader_bookDeals t_reader_bookWays t_tape_size t_now_book_size t_now_book_deal t_now_book_way t_now_book_foundNothing
noncomputable def gn_X11_book_0 (t_now_town_lawYears : Int32) (t_now_town_borrower : Nat → Int32) (t_now_town_either : Nat → Int32) (t_now_town_lender : Nat → Int32) (t_now_town_limit : Nat → Int32) (t_now_town_year : Nat → Int32) (v2 : Int32) (t_whyWrong : Int32) (t_tape_position : Int32) (t_tape_stop : Int32) (t_reader_lines : Int32) (t_reader_kind : Int32) (t_reader_place : Int32) (t_tape_place : Int32) (t_tape_number : Int32) (t_tape_name : Int64) (t_tape_token : Int32) (t_reader_bookDeals : Nat → Int32) (t_reader_bookWays : Nat → Int32) (t_tape_size : Int32) (t_now_book_size : Int32) (t_now_book_deal : Nat → Int32) (t_now_book_way : Nat → Int32) (t_now_book_foundNothing : Nat → Int32) : Option (Int32 × Int32 × Int32 × Int32 × Int32 × Int32 × Int32 × Int32 × Int32 × Int64 × Int32 × (Nat → Int32) × (Nat → Int32) × Int32 × Int32 × (Nat → Int32) × (Nat → Int32) × (Nat → Int32)) := lpC (st_X11_book t_now_town_lawYears t_now_town_borrower t_now_town_either t_now_town_lender t_now_town_limit t_now_town_year) ((v2, t_whyWrong, t_tape_position, t_tape_stop, t_reader_lines, t_reader_kind, t_reader_place, t_tape_place, t_tape_number, t_tape_name, t_tape_token, t_reader_bookDeals, t_reader_bookWays, t_tape_size, t_now_book_size, t_now_book_deal, t_now_book_way, t_now_book_foundNothing))
theorem gq_X11_book_0 (t_now_town_lawYears : Int32) (t_now_town_borrower : Nat → Int32) (t_now_town_either : Nat → Int32) (t_now_town_lender : Nat → Int32) (t_now_town_limit : Nat → Int32) (t_now_town_year : Nat → Int32) (v2 : Int32) (t_whyWrong : Int32) (t_tape_position : Int32) (t_tape_stop : Int32) (t_reader_lines : Int32) (t_reader_kind : Int32) (t_reader_place : Int32) (t_tape_place : Int32) (t_tape_number : Int32) (t_tape_name : Int64) (t_tape_token : Int32) (t_reader_bookDeals : Nat → Int32) (t_reader_bookWays : Nat → Int32) (t_tape_size : Int32) (t_now_book_size : Int32) (t_now_book_deal : Nat → Int32) (t_now_book_way : Nat → Int32) (t_now_book_foundNothing : Nat → Int32) : gn_X11_book_0 t_now_town_lawYears t_now_town_borrower t_now_town_either t_now_town_lender t_now_town_limit t_now_town_year v2 t_whyWrong t_tape_position t_tape_stop t_reader_lines t_reader_kind t_reader_place t_tape_place t_tape_number t_tape_name t_tape_token t_reader_bookDeals t_reader_bookWays t_tape_size t_now_book_size t_now_book_deal t_now_book_way t_now_book_foundNothing =
    if t_reader_lines ≤ v2 then
      some ((-1), t_whyWrong, t_tape_position, t_tape_stop, t_reader_lines, t_reader_kind, t_reader_place, t_tape_place, t_tape_number, t_tape_name, t_tape_token, t_reader_bookDeals, t_reader_bookWays, t_tape_size, t_now_book_size, t_now_book_deal, t_now_book_way, t_now_book_foundNothing)
    else
      if inb v2 40 = true then
      if inb v2 40 = true then
      Option.bind (dn_X0_tryDeal t_now_book_size t_now_book_deal t_now_book_foundNothing t_now_book_way t_now_town_lawYears t_now_town_borrower t_now_town_either t_now_town_lender t_now_town_limit t_now_town_year (t_reader_bookDeals (v2).toNatClampNeg) (t_reader_bookWays (v2).toNatClampNeg)) fun q8 =>
      if q8.1 = 0 then
        gn_X11_book_0 t_now_town_lawYears t_now_town_borrower t_now_town_either t_now_town_lender t_now_town_limit t_now_town_year (v2 + 1) q8.1 t_tape_position t_tape_stop t_reader_lines t_reader_kind t_reader_place t_tape_place t_tape_number t_tape_name t_tape_token t_reader_bookDeals t_reader_bookWays t_tape_size q8.2.2.2.2 q8.2.1 q8.2.2.1 q8.2.2.2.1
      else
        some (v2, q8.1, t_tape_position, t_tape_stop, t_reader_lines, t_reader_kind, t_reader_place, t_tape_place, t_tape_number, t_tape_name, t_tape_token, t_reader_bookDeals, t_reader_bookWays, t_tape_size, q8.2.2.2.2, q8.2.1, q8.2.2.1, q8.2.2.2.1)
      else none
      else none := by
  rw [gn_X11_book_0, lpC_eq]
  show lpO _ (bd_X11_book_0 t_now_town_lawYears t_now_town_borrower t_now_town_either t_now_town_lender t_now_town_limit t_now_town_year v2 t_whyWrong t_tape_position t_tape_stop t_reader_lines t_reader_kind t_reader_place t_tape_place t_tape_number t_tape_name t_tape_token t_reader_bookDeals t_reader_bookWays t_tape_size t_now_book_size t_now_book_deal t_now_book_way t_now_book_foundNothing) = _
  unfold bd_X11_book_0
  simp only [lpO_ite, lpO_bind, lpO_none, lpO_l, lpO_r]
  try rfl
noncomputable def dn_X11_book (t_now_book_size : Int32) (t_now_book_deal : Nat → Int32) (t_now_book_foundNothing : Nat → Int32) (t_now_book_way : Nat → Int32) (t_now_town_deals : Int32) (t_now_town_lawYears : Int32) (t_now_town_borrower : Nat → Int32) (t_now_town_dealNames : Nat → Int64) (t_now_town_either : Nat → Int32) (t_now_town_lender : Nat → Int32) (t_now_town_limit : Nat → Int32) (t_now_town_year : Nat → Int32) (t_reader_bookDeals : Nat → Int32) (t_reader_bookWays : Nat → Int32) (t_tape_size : Int32) (t_tape_token : Int32) (t_tape_place : Int32) (t_tape_number : Int32) (t_tape_name : Int64) (t_tape_bytes : Nat → Int32) : Option (Int32 × Int32 × Int32 × Int32 × Int32 × Int32 × Int32 × Int32 × Int32 × Int64 × Int32 × (Nat → Int32) × (Nat → Int32) × Int32 × Int32 × (Nat → Int32) × (Nat → Int32) × (Nat → Int32)) :=
  Option.bind (dn_X6_readBook t_reader_bookDeals t_reader_bookWays t_tape_size t_tape_token t_tape_place t_tape_number t_tape_name t_tape_bytes t_now_town_deals t_now_town_dealNames) fun q1 =>
  Option.bind (dn_X9_cut 0) fun q2 =>
  if q1.1 = true then
    Option.bind (dn_X0_clear) fun q4 =>
    gn_X11_book_0 t_now_town_lawYears t_now_town_borrower t_now_town_either t_now_town_lender t_now_town_limit t_now_town_year 0 0 q1.2.1 q1.2.2.1 q1.2.2.2.1 q1.2.2.2.2.1 q1.2.2.2.2.2.1 q1.2.2.2.2.2.2.1 q1.2.2.2.2.2.2.2.1 q1.2.2.2.2.2.2.2.2.1 q1.2.2.2.2.2.2.2.2.2.1 q1.2.2.2.2.2.2.2.2.2.2.1 q1.2.2.2.2.2.2.2.2.2.2.2 q2 q4 t_now_book_deal t_now_book_way t_now_book_foundNothing
  else
    some (((-2) : Int32) - q1.2.2.2.2.2.1, 0, q1.2.1, q1.2.2.1, q1.2.2.2.1, q1.2.2.2.2.1, q1.2.2.2.2.2.1, q1.2.2.2.2.2.2.1, q1.2.2.2.2.2.2.2.1, q1.2.2.2.2.2.2.2.2.1, q1.2.2.2.2.2.2.2.2.2.1, q1.2.2.2.2.2.2.2.2.2.2.1, q1.2.2.2.2.2.2.2.2.2.2.2, q2, t_now_book_size, t_now_book_deal, t_now_book_way, t_now_book_foundNothing)
noncomputable def dn_X11_why (t_whyWrong : Int32) : Option (Int32) :=
  some t_whyWrong
noncomputable def dn_X11_isYear (p1 : Int32) : Option (Bool) :=
  if p1 < 0 then
    some false
  else
    if (60 : Int32) ≤ p1 then
      some false
    else
      some true
noncomputable def dn_X11_is (t_now_book_size : Int32) (t_now_book_deal : Nat → Int32) (t_now_book_foundNothing : Nat → Int32) (t_now_book_way : Nat → Int32) (t_now_town_persons : Int32) (t_now_town_lawYears : Int32) (t_now_town_borrower : Nat → Int32) (t_now_town_lender : Nat → Int32) (t_now_town_year : Nat → Int32) (p1 : Int32) (p2 : Int32) : Option (Int32) :=
  Option.bind (dn_X10_hasPerson t_now_town_persons p1) fun q1 =>
  if q1 = true then
    Option.bind (dn_X11_isYear p2) fun q3 =>
    if q3 = true then
      Option.bind (dn_X0_whatIs t_now_book_size t_now_book_deal t_now_book_foundNothing t_now_book_way t_now_town_lawYears t_now_town_borrower t_now_town_lender t_now_town_year p1 p2) fun q5 =>
      some q5
    else
      some (-1)
  else
    some (-1)
noncomputable def bd_X11_may_0 (t_now_book_size : Int32) (t_now_book_deal : Nat → Int32) (t_now_book_foundNothing : Nat → Int32) (t_now_book_way : Nat → Int32) (t_now_town_deals : Int32) (t_now_town_lawYears : Int32) (t_now_town_borrower : Nat → Int32) (t_now_town_either : Nat → Int32) (t_now_town_lender : Nat → Int32) (t_now_town_limit : Nat → Int32) (t_now_town_year : Nat → Int32) (v2 : Int32) (v3 : Int32) (v4 : Int32) : Option (((Int32 × Int32 × Int32)) ⊕ (Int32)) :=
  if t_now_town_deals ≤ v4 then
    some (.inr v3)
  else
    Option.bind (dn_X0_wrongOf t_now_book_size t_now_book_deal t_now_book_foundNothing t_now_book_way t_now_town_lawYears t_now_town_borrower t_now_town_either t_now_town_lender t_now_town_limit t_now_town_year v4 v2) fun q5 =>
    if q5 = 0 then
      some (.inl (v2, v3 ||| ((1 : Int32) <<< (v4 &&& 31)), v4 + 1))
    else
      some (.inl (v2, v3, v4 + 1))
noncomputable def st_X11_may (t_now_book_size : Int32) (t_now_book_deal : Nat → Int32) (t_now_book_foundNothing : Nat → Int32) (t_now_book_way : Nat → Int32) (t_now_town_deals : Int32) (t_now_town_lawYears : Int32) (t_now_town_borrower : Nat → Int32) (t_now_town_either : Nat → Int32) (t_now_town_lender : Nat → Int32) (t_now_town_limit : Nat → Int32) (t_now_town_year : Nat → Int32) : ((Int32 × Int32 × Int32)) → Option (((Int32 × Int32 × Int32)) ⊕ (Int32)) := fun s => match s with
  | (v2, v3, v4) => bd_X11_may_0 t_now_book_size t_now_book_deal t_now_book_foundNothing t_now_book_way t_now_town_deals t_now_town_lawYears t_now_town_borrower t_now_town_either t_now_town_lender t_now_town_limit t_now_town_year v2 v3 v4
noncomputable def gn_X11_may_0 (t_now_book_size : Int32) (t_now_book_deal : Nat → Int32) (t_now_book_foundNothing : Nat → Int32) (t_now_book_way : Nat → Int32) (t_now_town_deals : Int32) (t_now_town_lawYears : Int32) (t_now_town_borrower : Nat → Int32) (t_now_town_either : Nat → Int32) (t_now_town_lender : Nat → Int32) (t_now_town_limit : Nat → Int32) (t_now_town_year : Nat → Int32) (v2 : Int32) (v3 : Int32) (v4 : Int32) : Option (Int32) := lpC (st_X11_may t_now_book_size t_now_book_deal t_now_book_foundNothing t_now_book_way t_now_town_deals t_now_town_lawYears t_now_town_borrower t_now_town_either t_now_town_lender t_now_town_limit t_now_town_year) ((v2, v3, v4))
theorem gq_X11_may_0 (t_now_book_size : Int32) (t_now_book_deal : Nat → Int32) (t_now_book_foundNothing : Nat → Int32) (t_now_book_way : Nat → Int32) (t_now_town_deals : Int32) (t_now_town_lawYears : Int32) (t_now_town_borrower : Nat → Int32) (t_now_town_either : Nat → Int32) (t_now_town_lender : Nat → Int32) (t_now_town_limit : Nat → Int32) (t_now_town_year : Nat → Int32) (v2 : Int32) (v3 : Int32) (v4 : Int32) : gn_X11_may_0 t_now_book_size t_now_book_deal t_now_book_foundNothing t_now_book_way t_now_town_deals t_now_town_lawYears t_now_town_borrower t_now_town_either t_now_town_lender t_now_town_limit t_now_town_year v2 v3 v4 =
    if t_now_town_deals ≤ v4 then
      some v3
    else
      Option.bind (dn_X0_wrongOf t_now_book_size t_now_book_deal t_now_book_foundNothing t_now_book_way t_now_town_lawYears t_now_town_borrower t_now_town_either t_now_town_lender t_now_town_limit t_now_town_year v4 v2) fun q5 =>
      if q5 = 0 then
        gn_X11_may_0 t_now_book_size t_now_book_deal t_now_book_foundNothing t_now_book_way t_now_town_deals t_now_town_lawYears t_now_town_borrower t_now_town_either t_now_town_lender t_now_town_limit t_now_town_year v2 (v3 ||| ((1 : Int32) <<< (v4 &&& 31))) (v4 + 1)
      else
        gn_X11_may_0 t_now_book_size t_now_book_deal t_now_book_foundNothing t_now_book_way t_now_town_deals t_now_town_lawYears t_now_town_borrower t_now_town_either t_now_town_lender t_now_town_limit t_now_town_year v2 v3 (v4 + 1) := by
  rw [gn_X11_may_0, lpC_eq]
  show lpO _ (bd_X11_may_0 t_now_book_size t_now_book_deal t_now_book_foundNothing t_now_book_way t_now_town_deals t_now_town_lawYears t_now_town_borrower t_now_town_either t_now_town_lender t_now_town_limit t_now_town_year v2 v3 v4) = _
  unfold bd_X11_may_0
  simp only [lpO_ite, lpO_bind, lpO_none, lpO_l, lpO_r]
  try rfl
noncomputable def dn_X11_may (t_now_book_size : Int32) (t_now_book_deal : Nat → Int32) (t_now_book_foundNothing : Nat → Int32) (t_now_book_way : Nat → Int32) (t_now_town_deals : Int32) (t_now_town_lawYears : Int32) (t_now_town_borrower : Nat → Int32) (t_now_town_either : Nat → Int32) (t_now_town_lender : Nat → Int32) (t_now_town_limit : Nat → Int32) (t_now_town_year : Nat → Int32) (p1 : Int32) : Option (Int32) :=
  if p1 < 0 then
    some (-1)
  else
    if p1 ≤ 1 then
      if p1 = 1 then
        gn_X11_may_0 t_now_book_size t_now_book_deal t_now_book_foundNothing t_now_book_way t_now_town_deals t_now_town_lawYears t_now_town_borrower t_now_town_either t_now_town_lender t_now_town_limit t_now_town_year 2 0 0
      else
        gn_X11_may_0 t_now_book_size t_now_book_deal t_now_book_foundNothing t_now_book_way t_now_town_deals t_now_town_lawYears t_now_town_borrower t_now_town_either t_now_town_lender t_now_town_limit t_now_town_year 1 0 0
    else
      some (-1)
noncomputable def dn_X11_had (t_now_book_size : Int32) (t_now_book_deal : Nat → Int32) (t_now_town_persons : Int32) (t_now_town_borrower : Nat → Int32) (t_now_town_borrowerGain : Nat → Int32) (t_now_town_lender : Nat → Int32) (t_now_town_lenderGain : Nat → Int32) (p1 : Int32) : Option (Int32) :=
  Option.bind (dn_X10_hasPerson t_now_town_persons p1) fun q1 =>
  if q1 = true then
    Option.bind (dn_X0_sharesOf t_now_book_size t_now_book_deal t_now_town_borrower t_now_town_borrowerGain t_now_town_lender t_now_town_lenderGain p1) fun q3 =>
    some q3
  else
    some (-1)
noncomputable def dn_X11_gain (t_flow_going : Int32) (t_flow_chosen : Int32) (t_flow_borrows : Nat → Int32) (t_flow_lends : Nat → Int32) (t_flow_reach : Nat → Int32) (t_flow_room : Nat → Int32) (t_flow_via : Nat → Int32) (t_flow_wanted : Nat → Int32) (t_flow_worth : Nat → Int32) (t_now_town_persons : Int32) (t_now_town_deals : Int32) (t_now_town_borrower : Nat → Int32) (t_now_town_borrowerGain : Nat → Int32) (t_now_town_byYear : Nat → Int32) (t_now_town_either : Nat → Int32) (t_now_town_lender : Nat → Int32) (t_now_town_lenderGain : Nat → Int32) (t_now_town_limit : Nat → Int32) (t_now_town_memo_gains : Nat → Int32) (t_now_town_year : Nat → Int32) (p1 : Int32) : Option (Int32 × (Nat → Int32) × Int32 × (Nat → Int32) × (Nat → Int32) × (Nat → Int32) × (Nat → Int32) × Int32 × (Nat → Int32) × (Nat → Int32) × (Nat → Int32)) :=
  Option.bind (dn_X10_hasParts t_now_town_persons p1) fun q1 =>
  if q1 = true then
    Option.bind (dn_X2_gainOf t_flow_going t_flow_chosen t_flow_borrows t_flow_lends t_flow_reach t_flow_room t_flow_via t_flow_wanted t_flow_worth t_now_town_persons t_now_town_deals t_now_town_borrower t_now_town_borrowerGain t_now_town_byYear t_now_town_either t_now_town_lender t_now_town_lenderGain t_now_town_limit t_now_town_memo_gains t_now_town_year p1) fun q3 =>
    some (q3.1, q3.2.1, q3.2.2.1, q3.2.2.2.1, q3.2.2.2.2.1, q3.2.2.2.2.2.1, q3.2.2.2.2.2.2.1, q3.2.2.2.2.2.2.2.1, q3.2.2.2.2.2.2.2.2.1, q3.2.2.2.2.2.2.2.2.2.1, q3.2.2.2.2.2.2.2.2.2.2)
  else
    some ((-1), t_flow_room, t_flow_going, t_flow_wanted, t_flow_lends, t_flow_borrows, t_flow_worth, t_flow_chosen, t_flow_reach, t_flow_via, t_now_town_memo_gains)
noncomputable def bd_X11_partsOfMost_0 (t_now_town_persons : Int32) (t_now_town_deals : Int32) (t_now_town_borrower : Nat → Int32) (t_now_town_borrowerGain : Nat → Int32) (t_now_town_byYear : Nat → Int32) (t_now_town_either : Nat → Int32) (t_now_town_lender : Nat → Int32) (t_now_town_lenderGain : Nat → Int32) (t_now_town_limit : Nat → Int32) (t_now_town_year : Nat → Int32) (v1 : Int32) (v2 : Int32) (t_flow_room : Nat → Int32) (t_flow_going : Int32) (t_flow_wanted : Nat → Int32) (t_flow_lends : Nat → Int32) (t_flow_borrows : Nat → Int32) (t_flow_worth : Nat → Int32) (t_flow_chosen : Int32) (t_flow_reach : Nat → Int32) (t_flow_via : Nat → Int32) (t_now_town_memo_gains : Nat → Int32) : Option (((Int32 × Int32 × (Nat → Int32) × Int32 × (Nat → Int32) × (Nat → Int32) × (Nat → Int32) × (Nat → Int32) × Int32 × (Nat → Int32) × (Nat → Int32) × (Nat → Int32))) ⊕ (Int32 × (Nat → Int32) × Int32 × (Nat → Int32) × (Nat → Int32) × (Nat → Int32) × (Nat → Int32) × Int32 × (Nat → Int32) × (Nat → Int32) × (Nat → Int32))) :=
  Option.bind (dn_X10_partsCount t_now_town_persons) fun q1 =>
  if q1 ≤ v2 then
    some (.inr (v1, t_flow_room, t_flow_going, t_flow_wanted, t_flow_lends, t_flow_borrows, t_flow_worth, t_flow_chosen, t_flow_reach, t_flow_via, t_now_town_memo_gains))
  else
    Option.bind (dn_X2_gainOf t_flow_going t_flow_chosen t_flow_borrows t_flow_lends t_flow_reach t_flow_room t_flow_via t_flow_wanted t_flow_worth t_now_town_persons t_now_town_deals t_now_town_borrower t_now_town_borrowerGain t_now_town_byYear t_now_town_either t_now_town_lender t_now_town_lenderGain t_now_town_limit t_now_town_memo_gains t_now_town_year v2) fun q3 =>
    Option.bind (dn_X2_gainOf q3.2.2.1 q3.2.2.2.2.2.2.2.1 q3.2.2.2.2.2.1 q3.2.2.2.2.1 q3.2.2.2.2.2.2.2.2.1 q3.2.1 q3.2.2.2.2.2.2.2.2.2.1 q3.2.2.2.1 q3.2.2.2.2.2.2.1 t_now_town_persons t_now_town_deals t_now_town_borrower t_now_town_borrowerGain t_now_town_byYear t_now_town_either t_now_town_lender t_now_town_lenderGain t_now_town_limit q3.2.2.2.2.2.2.2.2.2.2 t_now_town_year v1) fun q4 =>
    if q3.1 ≤ q4.1 then
      some (.inl (v1, v2 + 1, q4.2.1, q4.2.2.1, q4.2.2.2.1, q4.2.2.2.2.1, q4.2.2.2.2.2.1, q4.2.2.2.2.2.2.1, q4.2.2.2.2.2.2.2.1, q4.2.2.2.2.2.2.2.2.1, q4.2.2.2.2.2.2.2.2.2.1, q4.2.2.2.2.2.2.2.2.2.2))
    else
      some (.inl (v2, v2 + 1, q4.2.1, q4.2.2.1, q4.2.2.2.1, q4.2.2.2.2.1, q4.2.2.2.2.2.1, q4.2.2.2.2.2.2.1, q4.2.2.2.2.2.2.2.1, q4.2.2.2.2.2.2.2.2.1, q4.2.2.2.2.2.2.2.2.2.1, q4.2.2.2.2.2.2.2.2.2.2))
noncomputable def st_X11_partsOfMost (t_now_town_persons : Int32) (t_now_town_deals : Int32) (t_now_town_borrower : Nat → Int32) (t_now_town_borrowerGain : Nat → Int32) (t_now_town_byYear : Nat → Int32) (t_now_town_either : Nat → Int32) (t_now_town_lender : Nat → Int32) (t_now_town_lenderGain : Nat → Int32) (t_now_town_limit : Nat → Int32) (t_now_town_year : Nat → Int32) : ((Int32 × Int32 × (Nat → Int32) × Int32 × (Nat → Int32) × (Nat → Int32) × (Nat → Int32) × (Nat → Int32) × Int32 × (Nat → Int32) × (Nat → Int32) × (Nat → Int32))) → Option (((Int32 × Int32 × (Nat → Int32) × Int32 × (Nat → Int32) × (Nat → Int32) × (Nat → Int32) × (Nat → Int32) × Int32 × (Nat → Int32) × (Nat → Int32) × (Nat → Int32))) ⊕ (Int32 × (Nat → Int32) × Int32 × (Nat → Int32) × (Nat → Int32) × (Nat → Int32) × (Nat → Int32) × Int32 × (Nat → Int32) × (Nat → Int32) × (Nat → Int32))) := fun s => match s with
  | (v1, v2, t_flow_room, t_flow_going, t_flow_wanted, t_flow_lends, t_flow_borrows, t_flow_worth, t_flow_chosen, t_flow_reach, t_flow_via, t_now_town_memo_gains) => bd_X11_partsOfMost_0 t_now_town_persons t_now_town_deals t_now_town_borrower t_now_town_borrowerGain t_now_town_byYear t_now_town_either t_now_town_lender t_now_town_lenderGain t_now_town_limit t_now_town_year v1 v2 t_flow_room t_flow_going t_flow_wanted t_flow_lends t_flow_borrows t_flow_worth t_flow_chosen t_flow_reach t_flow_via t_now_town_memo_gains
noncomputable def gn_X11_partsOfMost_0 (t_now_town_persons : Int32) (t_now_town_deals : Int32) (t_now_town_borrower : Nat → Int32) (t_now_town_borrowerGain : Nat → Int32) (t_now_town_byYear : Nat → Int32) (t_now_town_either : Nat → Int32) (t_now_town_lender : Nat → Int32) (t_now_town_lenderGain : Nat → Int32) (t_now_town_limit : Nat → Int32) (t_now_town_year : Nat → Int32) (v1 : Int32) (v2 : Int32) (t_flow_room : Nat → Int32) (t_flow_going : Int32) (t_flow_wanted : Nat → Int32) (t_flow_lends : Nat → Int32) (t_flow_borrows : Nat → Int32) (t_flow_worth : Nat → Int32) (t_flow_chosen : Int32) (t_flow_reach : Nat → Int32) (t_flow_via : Nat → Int32) (t_now_town_memo_gains : Nat → Int32) : Option (Int32 × (Nat → Int32) × Int32 × (Nat → Int32) × (Nat → Int32) × (Nat → Int32) × (Nat → Int32) × Int32 × (Nat → Int32) × (Nat → Int32) × (Nat → Int32)) := lpC (st_X11_partsOfMost t_now_town_persons t_now_town_deals t_now_town_borrower t_now_town_borrowerGain t_now_town_byYear t_now_town_either t_now_town_lender t_now_town_lenderGain t_now_town_limit t_now_town_year) ((v1, v2, t_flow_room, t_flow_going, t_flow_wanted, t_flow_lends, t_flow_borrows, t_flow_worth, t_flow_chosen, t_flow_reach, t_flow_via, t_now_town_memo_gains))
theorem gq_X11_partsOfMost_0 (t_now_town_persons : Int32) (t_now_town_deals : Int32) (t_now_town_borrower : Nat → Int32) (t_now_town_borrowerGain : Nat → Int32) (t_now_town_byYear : Nat → Int32) (t_now_town_either : Nat → Int32) (t_now_town_lender : Nat → Int32) (t_now_town_lenderGain : Nat → Int32) (t_now_town_limit : Nat → Int32) (t_now_town_year : Nat → Int32) (v1 : Int32) (v2 : Int32) (t_flow_room : Nat → Int32) (t_flow_going : Int32) (t_flow_wanted : Nat → Int32) (t_flow_lends : Nat → Int32) (t_flow_borrows : Nat → Int32) (t_flow_worth : Nat → Int32) (t_flow_chosen : Int32) (t_flow_reach : Nat → Int32) (t_flow_via : Nat → Int32) (t_now_town_memo_gains : Nat → Int32) : gn_X11_partsOfMost_0 t_now_town_persons t_now_town_deals t_now_town_borrower t_now_town_borrowerGain t_now_town_byYear t_now_town_either t_now_town_lender t_now_town_lenderGain t_now_town_limit t_now_town_year v1 v2 t_flow_room t_flow_going t_flow_wanted t_flow_lends t_flow_borrows t_flow_worth t_flow_chosen t_flow_reach t_flow_via t_now_town_memo_gains =
    Option.bind (dn_X10_partsCount t_now_town_persons) fun q1 =>
    if q1 ≤ v2 then
      some (v1, t_flow_room, t_flow_going, t_flow_wanted, t_flow_lends, t_flow_borrows, t_flow_worth, t_flow_chosen, t_flow_reach, t_flow_via, t_now_town_memo_gains)
    else
      Option.bind (dn_X2_gainOf t_flow_going t_flow_chosen t_flow_borrows t_flow_lends t_flow_reach t_flow_room t_flow_via t_flow_wanted t_flow_worth t_now_town_persons t_now_town_deals t_now_town_borrower t_now_town_borrowerGain t_now_town_byYear t_now_town_either t_now_town_lender t_now_town_lenderGain t_now_town_limit t_now_town_memo_gains t_now_town_year v2) fun q3 =>
      Option.bind (dn_X2_gainOf q3.2.2.1 q3.2.2.2.2.2.2.2.1 q3.2.2.2.2.2.1 q3.2.2.2.2.1 q3.2.2.2.2.2.2.2.2.1 q3.2.1 q3.2.2.2.2.2.2.2.2.2.1 q3.2.2.2.1 q3.2.2.2.2.2.2.1 t_now_town_persons t_now_town_deals t_now_town_borrower t_now_town_borrowerGain t_now_town_byYear t_now_town_either t_now_town_lender t_now_town_lenderGain t_now_town_limit q3.2.2.2.2.2.2.2.2.2.2 t_now_town_year v1) fun q4 =>
      if q3.1 ≤ q4.1 then
        gn_X11_partsOfMost_0 t_now_town_persons t_now_town_deals t_now_town_borrower t_now_town_borrowerGain t_now_town_byYear t_now_town_either t_now_town_lender t_now_town_lenderGain t_now_town_limit t_now_town_year v1 (v2 + 1) q4.2.1 q4.2.2.1 q4.2.2.2.1 q4.2.2.2.2.1 q4.2.2.2.2.2.1 q4.2.2.2.2.2.2.1 q4.2.2.2.2.2.2.2.1 q4.2.2.2.2.2.2.2.2.1 q4.2.2.2.2.2.2.2.2.2.1 q4.2.2.2.2.2.2.2.2.2.2
      else
        gn_X11_partsOfMost_0 t_now_town_persons t_now_town_deals t_now_town_borrower t_now_town_borrowerGain t_now_town_byYear t_now_town_either t_now_town_lender t_now_town_lenderGain t_now_town_limit t_now_town_year v2 (v2 + 1) q4.2.1 q4.2.2.1 q4.2.2.2.1 q4.2.2.2.2.1 q4.2.2.2.2.2.1 q4.2.2.2.2.2.2.1 q4.2.2.2.2.2.2.2.1 q4.2.2.2.2.2.2.2.2.1 q4.2.2.2.2.2.2.2.2.2.1 q4.2.2.2.2.2.2.2.2.2.2 := by
  rw [gn_X11_partsOfMost_0, lpC_eq]
  show lpO _ (bd_X11_partsOfMost_0 t_now_town_persons t_now_town_deals t_now_town_borrower t_now_town_borrowerGain t_now_town_byYear t_now_town_either t_now_town_lender t_now_town_lenderGain t_now_town_limit t_now_town_year v1 v2 t_flow_room t_flow_going t_flow_wanted t_flow_lends t_flow_borrows t_flow_worth t_flow_chosen t_flow_reach t_flow_via t_now_town_memo_gains) = _
  unfold bd_X11_partsOfMost_0
  simp only [lpO_ite, lpO_bind, lpO_none, lpO_l, lpO_r]
  try rfl
noncomputable def dn_X11_partsOfMost (t_flow_going : Int32) (t_flow_chosen : Int32) (t_flow_borrows : Nat → Int32) (t_flow_lends : Nat → Int32) (t_flow_reach : Nat → Int32) (t_flow_room : Nat → Int32) (t_flow_via : Nat → Int32) (t_flow_wanted : Nat → Int32) (t_flow_worth : Nat → Int32) (t_now_town_persons : Int32) (t_now_town_deals : Int32) (t_now_town_borrower : Nat → Int32) (t_now_town_borrowerGain : Nat → Int32) (t_now_town_byYear : Nat → Int32) (t_now_town_either : Nat → Int32) (t_now_town_lender : Nat → Int32) (t_now_town_lenderGain : Nat → Int32) (t_now_town_limit : Nat → Int32) (t_now_town_memo_gains : Nat → Int32) (t_now_town_year : Nat → Int32) : Option (Int32 × (Nat → Int32) × Int32 × (Nat → Int32) × (Nat → Int32) × (Nat → Int32) × (Nat → Int32) × Int32 × (Nat → Int32) × (Nat → Int32) × (Nat → Int32)) :=
  gn_X11_partsOfMost_0 t_now_town_persons t_now_town_deals t_now_town_borrower t_now_town_borrowerGain t_now_town_byYear t_now_town_either t_now_town_lender t_now_town_lenderGain t_now_town_limit t_now_town_year 0 1 t_flow_room t_flow_going t_flow_wanted t_flow_lends t_flow_borrows t_flow_worth t_flow_chosen t_flow_reach t_flow_via t_now_town_memo_gains
noncomputable def dn_X11_best (t_flow_going : Int32) (t_flow_chosen : Int32) (t_flow_borrows : Nat → Int32) (t_flow_lends : Nat → Int32) (t_flow_reach : Nat → Int32) (t_flow_room : Nat → Int32) (t_flow_via : Nat → Int32) (t_flow_wanted : Nat → Int32) (t_flow_worth : Nat → Int32) (t_now_town_persons : Int32) (t_now_town_deals : Int32) (t_now_town_borrower : Nat → Int32) (t_now_town_borrowerGain : Nat → Int32) (t_now_town_byYear : Nat → Int32) (t_now_town_either : Nat → Int32) (t_now_town_lender : Nat → Int32) (t_now_town_lenderGain : Nat → Int32) (t_now_town_limit : Nat → Int32) (t_now_town_memo_gains : Nat → Int32) (t_now_town_year : Nat → Int32) : Option (Int32 × (Nat → Int32) × Int32 × (Nat → Int32) × (Nat → Int32) × (Nat → Int32) × (Nat → Int32) × Int32 × (Nat → Int32) × (Nat → Int32) × (Nat → Int32)) :=
  Option.bind (dn_X11_partsOfMost t_flow_going t_flow_chosen t_flow_borrows t_flow_lends t_flow_reach t_flow_room t_flow_via t_flow_wanted t_flow_worth t_now_town_persons t_now_town_deals t_now_town_borrower t_now_town_borrowerGain t_now_town_byYear t_now_town_either t_now_town_lender t_now_town_lenderGain t_now_town_limit t_now_town_memo_gains t_now_town_year) fun q1 =>
  Option.bind (dn_X2_gainOf q1.2.2.1 q1.2.2.2.2.2.2.2.1 q1.2.2.2.2.2.1 q1.2.2.2.2.1 q1.2.2.2.2.2.2.2.2.1 q1.2.1 q1.2.2.2.2.2.2.2.2.2.1 q1.2.2.2.1 q1.2.2.2.2.2.2.1 t_now_town_persons t_now_town_deals t_now_town_borrower t_now_town_borrowerGain t_now_town_byYear t_now_town_either t_now_town_lender t_now_town_lenderGain t_now_town_limit q1.2.2.2.2.2.2.2.2.2.2 t_now_town_year q1.1) fun q2 =>
  some (q2.1, q2.2.1, q2.2.2.1, q2.2.2.2.1, q2.2.2.2.2.1, q2.2.2.2.2.2.1, q2.2.2.2.2.2.2.1, q2.2.2.2.2.2.2.2.1, q2.2.2.2.2.2.2.2.2.1, q2.2.2.2.2.2.2.2.2.2.1, q2.2.2.2.2.2.2.2.2.2.2)
noncomputable def dn_X11_bestParts (t_flow_going : Int32) (t_flow_chosen : Int32) (t_flow_borrows : Nat → Int32) (t_flow_lends : Nat → Int32) (t_flow_reach : Nat → Int32) (t_flow_room : Nat → Int32) (t_flow_via : Nat → Int32) (t_flow_wanted : Nat → Int32) (t_flow_worth : Nat → Int32) (t_now_town_persons : Int32) (t_now_town_deals : Int32) (t_now_town_borrower : Nat → Int32) (t_now_town_borrowerGain : Nat → Int32) (t_now_town_byYear : Nat → Int32) (t_now_town_either : Nat → Int32) (t_now_town_lender : Nat → Int32) (t_now_town_lenderGain : Nat → Int32) (t_now_town_limit : Nat → Int32) (t_now_town_memo_gains : Nat → Int32) (t_now_town_year : Nat → Int32) : Option (Int32 × (Nat → Int32) × Int32 × (Nat → Int32) × (Nat → Int32) × (Nat → Int32) × (Nat → Int32) × Int32 × (Nat → Int32) × (Nat → Int32) × (Nat → Int32)) :=
  Option.bind (dn_X11_partsOfMost t_flow_going t_flow_chosen t_flow_borrows t_flow_lends t_flow_reach t_flow_room t_flow_via t_flow_wanted t_flow_worth t_now_town_persons t_now_town_deals t_now_town_borrower t_now_town_borrowerGain t_now_town_byYear t_now_town_either t_now_town_lender t_now_town_lenderGain t_now_town_limit t_now_town_memo_gains t_now_town_year) fun q1 =>
  some (q1.1, q1.2.1, q1.2.2.1, q1.2.2.2.1, q1.2.2.2.2.1, q1.2.2.2.2.2.1, q1.2.2.2.2.2.2.1, q1.2.2.2.2.2.2.2.1, q1.2.2.2.2.2.2.2.2.1, q1.2.2.2.2.2.2.2.2.2.1, q1.2.2.2.2.2.2.2.2.2.2)
noncomputable def bd_X11_goes_0 (t_now_town_deals : Int32) (t_now_town_borrower : Nat → Int32) (t_now_town_either : Nat → Int32) (t_now_town_lender : Nat → Int32) (p1 : Int32) (v2 : Int32) (v3 : Int32) : Option (((Int32 × Int32)) ⊕ (Int32)) :=
  if t_now_town_deals ≤ v3 then
    some (.inr v2)
  else
    Option.bind (dn_X10_goesBy t_now_town_borrower t_now_town_either t_now_town_lender v3 p1) fun q4 =>
    if q4 = true then
      some (.inl (v2 ||| ((1 : Int32) <<< (v3 &&& 31)), v3 + 1))
    else
      some (.inl (v2, v3 + 1))
noncomputable def st_X11_goes (t_now_town_deals : Int32) (t_now_town_borrower : Nat → Int32) (t_now_town_either : Nat → Int32) (t_now_town_lender : Nat → Int32) (p1 : Int32) : ((Int32 × Int32)) → Option (((Int32 × Int32)) ⊕ (Int32)) := fun s => match s with
  | (v2, v3) => bd_X11_goes_0 t_now_town_deals t_now_town_borrower t_now_town_either t_now_town_lender p1 v2 v3
noncomputable def gn_X11_goes_0 (t_now_town_deals : Int32) (t_now_town_borrower : Nat → Int32) (t_now_town_either : Nat → Int32) (t_now_town_lender : Nat → Int32) (p1 : Int32) (v2 : Int32) (v3 : Int32) : Option (Int32) := lpC (st_X11_goes t_now_town_deals t_now_town_borrower t_now_town_either t_now_town_lender p1) ((v2, v3))
theorem gq_X11_goes_0 (t_now_town_deals : Int32) (t_now_town_borrower : Nat → Int32) (t_now_town_either : Nat → Int32) (t_now_town_lender : Nat → Int32) (p1 : Int32) (v2 : Int32) (v3 : Int32) : gn_X11_goes_0 t_now_town_deals t_now_town_borrower t_now_town_either t_now_town_lender p1 v2 v3 =
    if t_now_town_deals ≤ v3 then
      some v2
    else
      Option.bind (dn_X10_goesBy t_now_town_borrower t_now_town_either t_now_town_lender v3 p1) fun q4 =>
      if q4 = true then
        gn_X11_goes_0 t_now_town_deals t_now_town_borrower t_now_town_either t_now_town_lender p1 (v2 ||| ((1 : Int32) <<< (v3 &&& 31))) (v3 + 1)
      else
        gn_X11_goes_0 t_now_town_deals t_now_town_borrower t_now_town_either t_now_town_lender p1 v2 (v3 + 1) := by
  rw [gn_X11_goes_0, lpC_eq]
  show lpO _ (bd_X11_goes_0 t_now_town_deals t_now_town_borrower t_now_town_either t_now_town_lender p1 v2 v3) = _
  unfold bd_X11_goes_0
  simp only [lpO_ite, lpO_bind, lpO_none, lpO_l, lpO_r]
  try rfl
noncomputable def dn_X11_goes (t_now_town_persons : Int32) (t_now_town_deals : Int32) (t_now_town_borrower : Nat → Int32) (t_now_town_either : Nat → Int32) (t_now_town_lender : Nat → Int32) (p1 : Int32) : Option (Int32) :=
  Option.bind (dn_X10_hasParts t_now_town_persons p1) fun q1 =>
  if q1 = true then
    gn_X11_goes_0 t_now_town_deals t_now_town_borrower t_now_town_either t_now_town_lender p1 0 0
  else
    some (-1)
noncomputable def bd_X11_above_0 (t_now_town_persons : Int32) (t_now_town_deals : Int32) (t_now_town_borrower : Nat → Int32) (t_now_town_borrowerGain : Nat → Int32) (t_now_town_byYear : Nat → Int32) (t_now_town_either : Nat → Int32) (t_now_town_lender : Nat → Int32) (t_now_town_lenderGain : Nat → Int32) (t_now_town_limit : Nat → Int32) (t_now_town_year : Nat → Int32) (p1 : Int32) (v2 : Int32) (v3 : Int32) (t_flow_room : Nat → Int32) (t_flow_going : Int32) (t_flow_wanted : Nat → Int32) (t_flow_lends : Nat → Int32) (t_flow_borrows : Nat → Int32) (t_flow_worth : Nat → Int32) (t_flow_chosen : Int32) (t_flow_reach : Nat → Int32) (t_flow_via : Nat → Int32) (t_now_town_memo_gains : Nat → Int32) : Option (((Int32 × Int32 × (Nat → Int32) × Int32 × (Nat → Int32) × (Nat → Int32) × (Nat → Int32) × (Nat → Int32) × Int32 × (Nat → Int32) × (Nat → Int32) × (Nat → Int32))) ⊕ (Int32 × (Nat → Int32) × Int32 × (Nat → Int32) × (Nat → Int32) × (Nat → Int32) × (Nat → Int32) × Int32 × (Nat → Int32) × (Nat → Int32) × (Nat → Int32))) :=
  Option.bind (dn_X10_partsCount t_now_town_persons) fun q1 =>
  if q1 ≤ v3 then
    some (.inr (v2, t_flow_room, t_flow_going, t_flow_wanted, t_flow_lends, t_flow_borrows, t_flow_worth, t_flow_chosen, t_flow_reach, t_flow_via, t_now_town_memo_gains))
  else
    Option.bind (dn_X2_gainOf t_flow_going t_flow_chosen t_flow_borrows t_flow_lends t_flow_reach t_flow_room t_flow_via t_flow_wanted t_flow_worth t_now_town_persons t_now_town_deals t_now_town_borrower t_now_town_borrowerGain t_now_town_byYear t_now_town_either t_now_town_lender t_now_town_lenderGain t_now_town_limit t_now_town_memo_gains t_now_town_year v3) fun q3 =>
    if q3.1 < p1 then
      some (.inl (v2, v3 + 1, q3.2.1, q3.2.2.1, q3.2.2.2.1, q3.2.2.2.2.1, q3.2.2.2.2.2.1, q3.2.2.2.2.2.2.1, q3.2.2.2.2.2.2.2.1, q3.2.2.2.2.2.2.2.2.1, q3.2.2.2.2.2.2.2.2.2.1, q3.2.2.2.2.2.2.2.2.2.2))
    else
      some (.inl (v2 + 1, v3 + 1, q3.2.1, q3.2.2.1, q3.2.2.2.1, q3.2.2.2.2.1, q3.2.2.2.2.2.1, q3.2.2.2.2.2.2.1, q3.2.2.2.2.2.2.2.1, q3.2.2.2.2.2.2.2.2.1, q3.2.2.2.2.2.2.2.2.2.1, q3.2.2.2.2.2.2.2.2.2.2))
noncomputable def st_X11_above (t_now_town_persons : Int32) (t_now_town_deals : Int32) (t_now_town_borrower : Nat → Int32) (t_now_town_borrowerGain : Nat → Int32) (t_now_town_byYear : Nat → Int32) (t_now_town_either : Nat → Int32) (t_now_town_lender : Nat → Int32) (t_now_town_lenderGain : Nat → Int32) (t_now_town_limit : Nat → Int32) (t_now_town_year : Nat → Int32) (p1 : Int32) : ((Int32 × Int32 × (Nat → Int32) × Int32 × (Nat → Int32) × (Nat → Int32) × (Nat → Int32) × (Nat → Int32) × Int32 × (Nat → Int32) × (Nat → Int32) × (Nat → Int32))) → Option (((Int32 × Int32 × (Nat → Int32) × Int32 × (Nat → Int32) × (Nat → Int32) × (Nat → Int32) × (Nat → Int32) × Int32 × (Nat → Int32) × (Nat → Int32) × (Nat → Int32))) ⊕ (Int32 × (Nat → Int32) × Int32 × (Nat → Int32) × (Nat → Int32) × (Nat → Int32) × (Nat → Int32) × Int32 × (Nat → Int32) × (Nat → Int32) × (Nat → Int32))) := fun s => match s with
  | (v2, v3, t_flow_room, t_flow_going, t_flow_wanted, t_flow_lends, t_flow_borrows, t_flow_worth, t_flow_chosen, t_flow_reach, t_flow_via, t_now_town_memo_gains) => bd_X11_above_0 t_now_town_persons t_now_town_deals t_now_town_borrower t_now_town_borrowerGain t_now_town_byYear t_now_town_either t_now_town_lender t_now_town_lenderGain t_now_town_limit t_now_town_year p1 v2 v3 t_flow_room t_flow_going t_flow_wanted t_flow_lends t_flow_borrows t_flow_worth t_flow_chosen t_flow_reach t_flow_via t_now_town_memo_gains
noncomputable def gn_X11_above_0 (t_now_town_persons : Int32) (t_now_town_deals : Int32) (t_now_town_borrower : Nat → Int32) (t_now_town_borrowerGain : Nat → Int32) (t_now_town_byYear : Nat → Int32) (t_now_town_either : Nat → Int32) (t_now_town_lender : Nat → Int32) (t_now_town_lenderGain : Nat → Int32) (t_now_town_limit : Nat → Int32) (t_now_town_year : Nat → Int32) (p1 : Int32) (v2 : Int32) (v3 : Int32) (t_flow_room : Nat → Int32) (t_flow_going : Int32) (t_flow_wanted : Nat → Int32) (t_flow_lends : Nat → Int32) (t_flow_borrows : Nat → Int32) (t_flow_worth : Nat → Int32) (t_flow_chosen : Int32) (t_flow_reach : Nat → Int32) (t_flow_via : Nat → Int32) (t_now_town_memo_gains : Nat → Int32) : Option (Int32 × (Nat → Int32) × Int32 × (Nat → Int32) × (Nat → Int32) × (Nat → Int32) × (Nat → Int32) × Int32 × (Nat → Int32) × (Nat → Int32) × (Nat → Int32)) := lpC (st_X11_above t_now_town_persons t_now_town_deals t_now_town_borrower t_now_town_borrowerGain t_now_town_byYear t_now_town_either t_now_town_lender t_now_town_lenderGain t_now_town_limit t_now_town_year p1) ((v2, v3, t_flow_room, t_flow_going, t_flow_wanted, t_flow_lends, t_flow_borrows, t_flow_worth, t_flow_chosen, t_flow_reach, t_flow_via, t_now_town_memo_gains))
theorem gq_X11_above_0 (t_now_town_persons : Int32) (t_now_town_deals : Int32) (t_now_town_borrower : Nat → Int32) (t_now_town_borrowerGain : Nat → Int32) (t_now_town_byYear : Nat → Int32) (t_now_town_either : Nat → Int32) (t_now_town_lender : Nat → Int32) (t_now_town_lenderGain : Nat → Int32) (t_now_town_limit : Nat → Int32) (t_now_town_year : Nat → Int32) (p1 : Int32) (v2 : Int32) (v3 : Int32) (t_flow_room : Nat → Int32) (t_flow_going : Int32) (t_flow_wanted : Nat → Int32) (t_flow_lends : Nat → Int32) (t_flow_borrows : Nat → Int32) (t_flow_worth : Nat → Int32) (t_flow_chosen : Int32) (t_flow_reach : Nat → Int32) (t_flow_via : Nat → Int32) (t_now_town_memo_gains : Nat → Int32) : gn_X11_above_0 t_now_town_persons t_now_town_deals t_now_town_borrower t_now_town_borrowerGain t_now_town_byYear t_now_town_either t_now_town_lender t_now_town_lenderGain t_now_town_limit t_now_town_year p1 v2 v3 t_flow_room t_flow_going t_flow_wanted t_flow_lends t_flow_borrows t_flow_worth t_flow_chosen t_flow_reach t_flow_via t_now_town_memo_gains =
    Option.bind (dn_X10_partsCount t_now_town_persons) fun q1 =>
    if q1 ≤ v3 then
      some (v2, t_flow_room, t_flow_going, t_flow_wanted, t_flow_lends, t_flow_borrows, t_flow_worth, t_flow_chosen, t_flow_reach, t_flow_via, t_now_town_memo_gains)
    else
      Option.bind (dn_X2_gainOf t_flow_going t_flow_chosen t_flow_borrows t_flow_lends t_flow_reach t_flow_room t_flow_via t_flow_wanted t_flow_worth t_now_town_persons t_now_town_deals t_now_town_borrower t_now_town_borrowerGain t_now_town_byYear t_now_town_either t_now_town_lender t_now_town_lenderGain t_now_town_limit t_now_town_memo_gains t_now_town_year v3) fun q3 =>
      if q3.1 < p1 then
        gn_X11_above_0 t_now_town_persons t_now_town_deals t_now_town_borrower t_now_town_borrowerGain t_now_town_byYear t_now_town_either t_now_town_lender t_now_town_lenderGain t_now_town_limit t_now_town_year p1 v2 (v3 + 1) q3.2.1 q3.2.2.1 q3.2.2.2.1 q3.2.2.2.2.1 q3.2.2.2.2.2.1 q3.2.2.2.2.2.2.1 q3.2.2.2.2.2.2.2.1 q3.2.2.2.2.2.2.2.2.1 q3.2.2.2.2.2.2.2.2.2.1 q3.2.2.2.2.2.2.2.2.2.2
      else
        gn_X11_above_0 t_now_town_persons t_now_town_deals t_now_town_borrower t_now_town_borrowerGain t_now_town_byYear t_now_town_either t_now_town_lender t_now_town_lenderGain t_now_town_limit t_now_town_year p1 (v2 + 1) (v3 + 1) q3.2.1 q3.2.2.1 q3.2.2.2.1 q3.2.2.2.2.1 q3.2.2.2.2.2.1 q3.2.2.2.2.2.2.1 q3.2.2.2.2.2.2.2.1 q3.2.2.2.2.2.2.2.2.1 q3.2.2.2.2.2.2.2.2.2.1 q3.2.2.2.2.2.2.2.2.2.2 := by
  rw [gn_X11_above_0, lpC_eq]
  show lpO _ (bd_X11_above_0 t_now_town_persons t_now_town_deals t_now_town_borrower t_now_town_borrowerGain t_now_town_byYear t_now_town_either t_now_town_lender t_now_town_lenderGain t_now_town_limit t_now_town_year p1 v2 v3 t_flow_room t_flow_going t_flow_wanted t_flow_lends t_flow_borrows t_flow_worth t_flow_chosen t_flow_reach t_flow_via t_now_town_memo_gains) = _
  unfold bd_X11_above_0
  simp only [lpO_ite, lpO_bind, lpO_none, lpO_l, lpO_r]
  try rfl
noncomputable def dn_X11_above (t_flow_going : Int32) (t_flow_chosen : Int32) (t_flow_borrows : Nat → Int32) (t_flow_lends : Nat → Int32) (t_flow_reach : Nat → Int32) (t_flow_room : Nat → Int32) (t_flow_via : Nat → Int32) (t_flow_wanted : Nat → Int32) (t_flow_worth : Nat → Int32) (t_now_town_persons : Int32) (t_now_town_deals : Int32) (t_now_town_borrower : Nat → Int32) (t_now_town_borrowerGain : Nat → Int32) (t_now_town_byYear : Nat → Int32) (t_now_town_either : Nat → Int32) (t_now_town_lender : Nat → Int32) (t_now_town_lenderGain : Nat → Int32) (t_now_town_limit : Nat → Int32) (t_now_town_memo_gains : Nat → Int32) (t_now_town_year : Nat → Int32) (p1 : Int32) : Option (Int32 × (Nat → Int32) × Int32 × (Nat → Int32) × (Nat → Int32) × (Nat → Int32) × (Nat → Int32) × Int32 × (Nat → Int32) × (Nat → Int32) × (Nat → Int32)) :=
  gn_X11_above_0 t_now_town_persons t_now_town_deals t_now_town_borrower t_now_town_borrowerGain t_now_town_byYear t_now_town_either t_now_town_lender t_now_town_lenderGain t_now_town_limit t_now_town_year p1 0 0 t_flow_room t_flow_going t_flow_wanted t_flow_lends t_flow_borrows t_flow_worth t_flow_chosen t_flow_reach t_flow_via t_now_town_memo_gains
noncomputable def dn_X11_price (t_flow_going : Int32) (t_flow_chosen : Int32) (t_flow_borrows : Nat → Int32) (t_flow_lends : Nat → Int32) (t_flow_reach : Nat → Int32) (t_flow_room : Nat → Int32) (t_flow_via : Nat → Int32) (t_flow_wanted : Nat → Int32) (t_flow_worth : Nat → Int32) (t_now_town_persons : Int32) (t_now_town_deals : Int32) (t_now_town_borrower : Nat → Int32) (t_now_town_borrowerGain : Nat → Int32) (t_now_town_byYear : Nat → Int32) (t_now_town_either : Nat → Int32) (t_now_town_lender : Nat → Int32) (t_now_town_lenderGain : Nat → Int32) (t_now_town_limit : Nat → Int32) (t_now_town_memo_gains : Nat → Int32) (t_now_town_year : Nat → Int32) (p1 : Int32) (p2 : Int32) : Option (Int32 × (Nat → Int32) × Int32 × (Nat → Int32) × (Nat → Int32) × (Nat → Int32) × (Nat → Int32) × Int32 × (Nat → Int32) × (Nat → Int32) × (Nat → Int32)) :=
  Option.bind (dn_X10_hasPerson t_now_town_persons p1) fun q1 =>
  if q1 = true then
    Option.bind (dn_X10_hasParts t_now_town_persons p2) fun q3 =>
    if q3 = true then
      if inb p1 10 = true then
      Option.bind (dn_X2_gainWithLimit t_flow_going t_flow_chosen t_flow_borrows t_flow_lends t_flow_reach t_flow_room t_flow_via t_flow_wanted t_flow_worth t_now_town_persons t_now_town_deals t_now_town_borrower t_now_town_borrowerGain t_now_town_byYear t_now_town_either t_now_town_lender t_now_town_lenderGain t_now_town_limit t_now_town_year p2 p1 ((t_now_town_limit (p1).toNatClampNeg) + 1)) fun q6 =>
      Option.bind (dn_X2_gainOf q6.2.2.1 q6.2.2.2.2.2.2.2.1 q6.2.2.2.2.2.1 q6.2.2.2.2.1 q6.2.2.2.2.2.2.2.2.1 q6.2.1 q6.2.2.2.2.2.2.2.2.2 q6.2.2.2.1 q6.2.2.2.2.2.2.1 t_now_town_persons t_now_town_deals t_now_town_borrower t_now_town_borrowerGain t_now_town_byYear t_now_town_either t_now_town_lender t_now_town_lenderGain t_now_town_limit t_now_town_memo_gains t_now_town_year p2) fun q7 =>
      some (q6.1 - q7.1, q7.2.1, q7.2.2.1, q7.2.2.2.1, q7.2.2.2.2.1, q7.2.2.2.2.2.1, q7.2.2.2.2.2.2.1, q7.2.2.2.2.2.2.2.1, q7.2.2.2.2.2.2.2.2.1, q7.2.2.2.2.2.2.2.2.2.1, q7.2.2.2.2.2.2.2.2.2.2)
      else none
    else
      some ((-1), t_flow_room, t_flow_going, t_flow_wanted, t_flow_lends, t_flow_borrows, t_flow_worth, t_flow_chosen, t_flow_reach, t_flow_via, t_now_town_memo_gains)
  else
    some ((-1), t_flow_room, t_flow_going, t_flow_wanted, t_flow_lends, t_flow_borrows, t_flow_worth, t_flow_chosen, t_flow_reach, t_flow_via, t_now_town_memo_gains)
noncomputable def dn_X11_loss (t_flow_going : Int32) (t_flow_chosen : Int32) (t_flow_borrows : Nat → Int32) (t_flow_lends : Nat → Int32) (t_flow_reach : Nat → Int32) (t_flow_room : Nat → Int32) (t_flow_via : Nat → Int32) (t_flow_wanted : Nat → Int32) (t_flow_worth : Nat → Int32) (t_now_town_persons : Int32) (t_now_town_deals : Int32) (t_now_town_borrower : Nat → Int32) (t_now_town_borrowerGain : Nat → Int32) (t_now_town_byYear : Nat → Int32) (t_now_town_either : Nat → Int32) (t_now_town_lender : Nat → Int32) (t_now_town_lenderGain : Nat → Int32) (t_now_town_limit : Nat → Int32) (t_now_town_memo_gains : Nat → Int32) (t_now_town_year : Nat → Int32) (p1 : Int32) (p2 : Int32) : Option (Int32 × (Nat → Int32) × Int32 × (Nat → Int32) × (Nat → Int32) × (Nat → Int32) × (Nat → Int32) × Int32 × (Nat → Int32) × (Nat → Int32) × (Nat → Int32)) :=
  Option.bind (dn_X10_hasPerson t_now_town_persons p1) fun q1 =>
  if q1 = true then
    Option.bind (dn_X10_hasParts t_now_town_persons p2) fun q3 =>
    if q3 = true then
      Option.bind (dn_X2_gainOf t_flow_going t_flow_chosen t_flow_borrows t_flow_lends t_flow_reach t_flow_room t_flow_via t_flow_wanted t_flow_worth t_now_town_persons t_now_town_deals t_now_town_borrower t_now_town_borrowerGain t_now_town_byYear t_now_town_either t_now_town_lender t_now_town_lenderGain t_now_town_limit t_now_town_memo_gains t_now_town_year p2) fun q5 =>
      Option.bind (dn_X2_gainWithLimit q5.2.2.1 q5.2.2.2.2.2.2.2.1 q5.2.2.2.2.2.1 q5.2.2.2.2.1 q5.2.2.2.2.2.2.2.2.1 q5.2.1 q5.2.2.2.2.2.2.2.2.2.1 q5.2.2.2.1 q5.2.2.2.2.2.2.1 t_now_town_persons t_now_town_deals t_now_town_borrower t_now_town_borrowerGain t_now_town_byYear t_now_town_either t_now_town_lender t_now_town_lenderGain t_now_town_limit t_now_town_year p2 p1 0) fun q6 =>
      some (q5.1 - q6.1, q6.2.1, q6.2.2.1, q6.2.2.2.1, q6.2.2.2.2.1, q6.2.2.2.2.2.1, q6.2.2.2.2.2.2.1, q6.2.2.2.2.2.2.2.1, q6.2.2.2.2.2.2.2.2.1, q6.2.2.2.2.2.2.2.2.2, q5.2.2.2.2.2.2.2.2.2.2)
    else
      some ((-1), t_flow_room, t_flow_going, t_flow_wanted, t_flow_lends, t_flow_borrows, t_flow_worth, t_flow_chosen, t_flow_reach, t_flow_via, t_now_town_memo_gains)
  else
    some ((-1), t_flow_room, t_flow_going, t_flow_wanted, t_flow_lends, t_flow_borrows, t_flow_worth, t_flow_chosen, t_flow_reach, t_flow_via, t_now_town_memo_gains)
noncomputable def bd_X11_firstBetter_0 (t_now_town_persons : Int32) (t_now_town_deals : Int32) (t_now_town_borrower : Nat → Int32) (t_now_town_borrowerGain : Nat → Int32) (t_now_town_byYear : Nat → Int32) (t_now_town_either : Nat → Int32) (t_now_town_lender : Nat → Int32) (t_now_town_lenderGain : Nat → Int32) (t_now_town_limit : Nat → Int32) (t_now_town_year : Nat → Int32) (p1 : Int32) (v2 : Int32) (v3 : Int32) (t_flow_room : Nat → Int32) (t_flow_going : Int32) (t_flow_wanted : Nat → Int32) (t_flow_lends : Nat → Int32) (t_flow_borrows : Nat → Int32) (t_flow_worth : Nat → Int32) (t_flow_chosen : Int32) (t_flow_reach : Nat → Int32) (t_flow_via : Nat → Int32) (t_now_town_memo_gains : Nat → Int32) : Option (((Int32 × Int32 × (Nat → Int32) × Int32 × (Nat → Int32) × (Nat → Int32) × (Nat → Int32) × (Nat → Int32) × Int32 × (Nat → Int32) × (Nat → Int32) × (Nat → Int32))) ⊕ (Int32 × (Nat → Int32) × Int32 × (Nat → Int32) × (Nat → Int32) × (Nat → Int32) × (Nat → Int32) × Int32 × (Nat → Int32) × (Nat → Int32) × (Nat → Int32))) :=
  if t_now_town_persons ≤ v3 then
    some (.inr (p1, t_flow_room, t_flow_going, t_flow_wanted, t_flow_lends, t_flow_borrows, t_flow_worth, t_flow_chosen, t_flow_reach, t_flow_via, t_now_town_memo_gains))
  else
    Option.bind (dn_X2_gainOf t_flow_going t_flow_chosen t_flow_borrows t_flow_lends t_flow_reach t_flow_room t_flow_via t_flow_wanted t_flow_worth t_now_town_persons t_now_town_deals t_now_town_borrower t_now_town_borrowerGain t_now_town_byYear t_now_town_either t_now_town_lender t_now_town_lenderGain t_now_town_limit t_now_town_memo_gains t_now_town_year (p1 ^^^ ((1 : Int32) <<< (v3 &&& 31)))) fun q3 =>
    if q3.1 ≤ v2 then
      some (.inl (v2, v3 + 1, q3.2.1, q3.2.2.1, q3.2.2.2.1, q3.2.2.2.2.1, q3.2.2.2.2.2.1, q3.2.2.2.2.2.2.1, q3.2.2.2.2.2.2.2.1, q3.2.2.2.2.2.2.2.2.1, q3.2.2.2.2.2.2.2.2.2.1, q3.2.2.2.2.2.2.2.2.2.2))
    else
      some (.inr (p1 ^^^ ((1 : Int32) <<< (v3 &&& 31)), q3.2.1, q3.2.2.1, q3.2.2.2.1, q3.2.2.2.2.1, q3.2.2.2.2.2.1, q3.2.2.2.2.2.2.1, q3.2.2.2.2.2.2.2.1, q3.2.2.2.2.2.2.2.2.1, q3.2.2.2.2.2.2.2.2.2.1, q3.2.2.2.2.2.2.2.2.2.2))
noncomputable def st_X11_firstBetter (t_now_town_persons : Int32) (t_now_town_deals : Int32) (t_now_town_borrower : Nat → Int32) (t_now_town_borrowerGain : Nat → Int32) (t_now_town_byYear : Nat → Int32) (t_now_town_either : Nat → Int32) (t_now_town_lender : Nat → Int32) (t_now_town_lenderGain : Nat → Int32) (t_now_town_limit : Nat → Int32) (t_now_town_year : Nat → Int32) (p1 : Int32) : ((Int32 × Int32 × (Nat → Int32) × Int32 × (Nat → Int32) × (Nat → Int32) × (Nat → Int32) × (Nat → Int32) × Int32 × (Nat → Int32) × (Nat → Int32) × (Nat → Int32))) → Option (((Int32 × Int32 × (Nat → Int32) × Int32 × (Nat → Int32) × (Nat → Int32) × (Nat → Int32) × (Nat → Int32) × Int32 × (Nat → Int32) × (Nat → Int32) × (Nat → Int32))) ⊕ (Int32 × (Nat → Int32) × Int32 × (Nat → Int32) × (Nat → Int32) × (Nat → Int32) × (Nat → Int32) × Int32 × (Nat → Int32) × (Nat → Int32) × (Nat → Int32))) := fun s => match s with
  | (v2, v3, t_flow_room, t_flow_going, t_flow_wanted, t_flow_lends, t_flow_borrows, t_flow_worth, t_flow_chosen, t_flow_reach, t_flow_via, t_now_town_memo_gains) => bd_X11_firstBetter_0 t_now_town_persons t_now_town_deals t_now_town_borrower t_now_town_borrowerGain t_now_town_byYear t_now_town_either t_now_town_lender t_now_town_lenderGain t_now_town_limit t_now_town_year p1 v2 v3 t_flow_room t_flow_going t_flow_wanted t_flow_lends t_flow_borrows t_flow_worth t_flow_chosen t_flow_reach t_flow_via t_now_town_memo_gains
noncomputable def gn_X11_firstBetter_0 (t_now_town_persons : Int32) (t_now_town_deals : Int32) (t_now_town_borrower : Nat → Int32) (t_now_town_borrowerGain : Nat → Int32) (t_now_town_byYear : Nat → Int32) (t_now_town_either : Nat → Int32) (t_now_town_lender : Nat → Int32) (t_now_town_lenderGain : Nat → Int32) (t_now_town_limit : Nat → Int32) (t_now_town_year : Nat → Int32) (p1 : Int32) (v2 : Int32) (v3 : Int32) (t_flow_room : Nat → Int32) (t_flow_going : Int32) (t_flow_wanted : Nat → Int32) (t_flow_lends : Nat → Int32) (t_flow_borrows : Nat → Int32) (t_flow_worth : Nat → Int32) (t_flow_chosen : Int32) (t_flow_reach : Nat → Int32) (t_flow_via : Nat → Int32) (t_now_town_memo_gains : Nat → Int32) : Option (Int32 × (Nat → Int32) × Int32 × (Nat → Int32) × (Nat → Int32) × (Nat → Int32) × (Nat → Int32) × Int32 × (Nat → Int32) × (Nat → Int32) × (Nat → Int32)) := lpC (st_X11_firstBetter t_now_town_persons t_now_town_deals t_now_town_borrower t_now_town_borrowerGain t_now_town_byYear t_now_town_either t_now_town_lender t_now_town_lenderGain t_now_town_limit t_now_town_year p1) ((v2, v3, t_flow_room, t_flow_going, t_flow_wanted, t_flow_lends, t_flow_borrows, t_flow_worth, t_flow_chosen, t_flow_reach, t_flow_via, t_now_town_memo_gains))
theorem gq_X11_firstBetter_0 (t_now_town_persons : Int32) (t_now_town_deals : Int32) (t_now_town_borrower : Nat → Int32) (t_now_town_borrowerGain : Nat → Int32) (t_now_town_byYear : Nat → Int32) (t_now_town_either : Nat → Int32) (t_now_town_lender : Nat → Int32) (t_now_town_lenderGain : Nat → Int32) (t_now_town_limit : Nat → Int32) (t_now_town_year : Nat → Int32) (p1 : Int32) (v2 : Int32) (v3 : Int32) (t_flow_room : Nat → Int32) (t_flow_going : Int32) (t_flow_wanted : Nat → Int32) (t_flow_lends : Nat → Int32) (t_flow_borrows : Nat → Int32) (t_flow_worth : Nat → Int32) (t_flow_chosen : Int32) (t_flow_reach : Nat → Int32) (t_flow_via : Nat → Int32) (t_now_town_memo_gains : Nat → Int32) : gn_X11_firstBetter_0 t_now_town_persons t_now_town_deals t_now_town_borrower t_now_town_borrowerGain t_now_town_byYear t_now_town_either t_now_town_lender t_now_town_lenderGain t_now_town_limit t_now_town_year p1 v2 v3 t_flow_room t_flow_going t_flow_wanted t_flow_lends t_flow_borrows t_flow_worth t_flow_chosen t_flow_reach t_flow_via t_now_town_memo_gains =
    if t_now_town_persons ≤ v3 then
      some (p1, t_flow_room, t_flow_going, t_flow_wanted, t_flow_lends, t_flow_borrows, t_flow_worth, t_flow_chosen, t_flow_reach, t_flow_via, t_now_town_memo_gains)
    else
      Option.bind (dn_X2_gainOf t_flow_going t_flow_chosen t_flow_borrows t_flow_lends t_flow_reach t_flow_room t_flow_via t_flow_wanted t_flow_worth t_now_town_persons t_now_town_deals t_now_town_borrower t_now_town_borrowerGain t_now_town_byYear t_now_town_either t_now_town_lender t_now_town_lenderGain t_now_town_limit t_now_town_memo_gains t_now_town_year (p1 ^^^ ((1 : Int32) <<< (v3 &&& 31)))) fun q3 =>
      if q3.1 ≤ v2 then
        gn_X11_firstBetter_0 t_now_town_persons t_now_town_deals t_now_town_borrower t_now_town_borrowerGain t_now_town_byYear t_now_town_either t_now_town_lender t_now_town_lenderGain t_now_town_limit t_now_town_year p1 v2 (v3 + 1) q3.2.1 q3.2.2.1 q3.2.2.2.1 q3.2.2.2.2.1 q3.2.2.2.2.2.1 q3.2.2.2.2.2.2.1 q3.2.2.2.2.2.2.2.1 q3.2.2.2.2.2.2.2.2.1 q3.2.2.2.2.2.2.2.2.2.1 q3.2.2.2.2.2.2.2.2.2.2
      else
        some (p1 ^^^ ((1 : Int32) <<< (v3 &&& 31)), q3.2.1, q3.2.2.1, q3.2.2.2.1, q3.2.2.2.2.1, q3.2.2.2.2.2.1, q3.2.2.2.2.2.2.1, q3.2.2.2.2.2.2.2.1, q3.2.2.2.2.2.2.2.2.1, q3.2.2.2.2.2.2.2.2.2.1, q3.2.2.2.2.2.2.2.2.2.2) := by
  rw [gn_X11_firstBetter_0, lpC_eq]
  show lpO _ (bd_X11_firstBetter_0 t_now_town_persons t_now_town_deals t_now_town_borrower t_now_town_borrowerGain t_now_town_byYear t_now_town_either t_now_town_lender t_now_town_lenderGain t_now_town_limit t_now_town_year p1 v2 v3 t_flow_room t_flow_going t_flow_wanted t_flow_lends t_flow_borrows t_flow_worth t_flow_chosen t_flow_reach t_flow_via t_now_town_memo_gains) = _
  unfold bd_X11_firstBetter_0
  simp only [lpO_ite, lpO_bind, lpO_none, lpO_l, lpO_r]
  try rfl
noncomputable def dn_X11_firstBetter (t_flow_going : Int32) (t_flow_chosen : Int32) (t_flow_borrows : Nat → Int32) (t_flow_lends : Nat → Int32) (t_flow_reach : Nat → Int32) (t_flow_room : Nat → Int32) (t_flow_via : Nat → Int32) (t_flow_wanted : Nat → Int32) (t_flow_worth : Nat → Int32) (t_now_town_persons : Int32) (t_now_town_deals : Int32) (t_now_town_borrower : Nat → Int32) (t_now_town_borrowerGain : Nat → Int32) (t_now_town_byYear : Nat → Int32) (t_now_town_either : Nat → Int32) (t_now_town_lender : Nat → Int32) (t_now_town_lenderGain : Nat → Int32) (t_now_town_limit : Nat → Int32) (t_now_town_memo_gains : Nat → Int32) (t_now_town_year : Nat → Int32) (p1 : Int32) : Option (Int32 × (Nat → Int32) × Int32 × (Nat → Int32) × (Nat → Int32) × (Nat → Int32) × (Nat → Int32) × Int32 × (Nat → Int32) × (Nat → Int32) × (Nat → Int32)) :=
  Option.bind (dn_X2_gainOf t_flow_going t_flow_chosen t_flow_borrows t_flow_lends t_flow_reach t_flow_room t_flow_via t_flow_wanted t_flow_worth t_now_town_persons t_now_town_deals t_now_town_borrower t_now_town_borrowerGain t_now_town_byYear t_now_town_either t_now_town_lender t_now_town_lenderGain t_now_town_limit t_now_town_memo_gains t_now_town_year p1) fun q1 =>
  gn_X11_firstBetter_0 t_now_town_persons t_now_town_deals t_now_town_borrower t_now_town_borrowerGain t_now_town_byYear t_now_town_either t_now_town_lender t_now_town_lenderGain t_now_town_limit t_now_town_year p1 q1.1 0 q1.2.1 q1.2.2.1 q1.2.2.2.1 q1.2.2.2.2.1 q1.2.2.2.2.2.1 q1.2.2.2.2.2.2.1 q1.2.2.2.2.2.2.2.1 q1.2.2.2.2.2.2.2.2.1 q1.2.2.2.2.2.2.2.2.2.1 q1.2.2.2.2.2.2.2.2.2.2
noncomputable def bd_X11_climb_0 (t_now_town_persons : Int32) (t_now_town_deals : Int32) (t_now_town_borrower : Nat → Int32) (t_now_town_borrowerGain : Nat → Int32) (t_now_town_byYear : Nat → Int32) (t_now_town_either : Nat → Int32) (t_now_town_lender : Nat → Int32) (t_now_town_lenderGain : Nat → Int32) (t_now_town_limit : Nat → Int32) (t_now_town_year : Nat → Int32) (v2 : Int32) (v3 : Int32) (t_changes : Int32) (t_flow_room : Nat → Int32) (t_flow_going : Int32) (t_flow_wanted : Nat → Int32) (t_flow_lends : Nat → Int32) (t_flow_borrows : Nat → Int32) (t_flow_worth : Nat → Int32) (t_flow_chosen : Int32) (t_flow_reach : Nat → Int32) (t_flow_via : Nat → Int32) (t_now_town_memo_gains : Nat → Int32) : Option (((Int32 × Int32 × Int32 × (Nat → Int32) × Int32 × (Nat → Int32) × (Nat → Int32) × (Nat → Int32) × (Nat → Int32) × Int32 × (Nat → Int32) × (Nat → Int32) × (Nat → Int32))) ⊕ (Int32 × Int32 × (Nat → Int32) × Int32 × (Nat → Int32) × (Nat → Int32) × (Nat → Int32) × (Nat → Int32) × Int32 × (Nat → Int32) × (Nat → Int32) × (Nat → Int32))) :=
  if (1024 : Int32) ≤ v3 then
    some (.inr (v2, t_changes, t_flow_room, t_flow_going, t_flow_wanted, t_flow_lends, t_flow_borrows, t_flow_worth, t_flow_chosen, t_flow_reach, t_flow_via, t_now_town_memo_gains))
  else
    Option.bind (dn_X11_firstBetter t_flow_going t_flow_chosen t_flow_borrows t_flow_lends t_flow_reach t_flow_room t_flow_via t_flow_wanted t_flow_worth t_now_town_persons t_now_town_deals t_now_town_borrower t_now_town_borrowerGain t_now_town_byYear t_now_town_either t_now_town_lender t_now_town_lenderGain t_now_town_limit t_now_town_memo_gains t_now_town_year v2) fun q4 =>
    if q4.1 = v2 then
      some (.inr (v2, t_changes, q4.2.1, q4.2.2.1, q4.2.2.2.1, q4.2.2.2.2.1, q4.2.2.2.2.2.1, q4.2.2.2.2.2.2.1, q4.2.2.2.2.2.2.2.1, q4.2.2.2.2.2.2.2.2.1, q4.2.2.2.2.2.2.2.2.2.1, q4.2.2.2.2.2.2.2.2.2.2))
    else
      some (.inl (q4.1, v3 + 1, t_changes + 1, q4.2.1, q4.2.2.1, q4.2.2.2.1, q4.2.2.2.2.1, q4.2.2.2.2.2.1, q4.2.2.2.2.2.2.1, q4.2.2.2.2.2.2.2.1, q4.2.2.2.2.2.2.2.2.1, q4.2.2.2.2.2.2.2.2.2.1, q4.2.2.2.2.2.2.2.2.2.2))
noncomputable def st_X11_climb (t_now_town_persons : Int32) (t_now_town_deals : Int32) (t_now_town_borrower : Nat → Int32) (t_now_town_borrowerGain : Nat → Int32) (t_now_town_byYear : Nat → Int32) (t_now_town_either : Nat → Int32) (t_now_town_lender : Nat → Int32) (t_now_town_lenderGain : Nat → Int32) (t_now_town_limit : Nat → Int32) (t_now_town_year : Nat → Int32) : ((Int32 × Int32 × Int32 × (Nat → Int32) × Int32 × (Nat → Int32) × (Nat → Int32) × (Nat → Int32) × (Nat → Int32) × Int32 × (Nat → Int32) × (Nat → Int32) × (Nat → Int32))) → Option (((Int32 × Int32 × Int32 × (Nat → Int32) × Int32 × (Nat → Int32) × (Nat → Int32) × (Nat → Int32) × (Nat → Int32) × Int32 × (Nat → Int32) × (Nat → Int32) × (Nat → Int32))) ⊕ (Int32 × Int32 × (Nat → Int32) × Int32 × (Nat → Int32) × (Nat → Int32) × (Nat → Int32) × (Nat → Int32) × Int32 × (Nat → Int32) × (Nat → Int32) × (Nat → Int32))) := fun s => match s with
  | (v2, v3, t_changes, t_flow_room, t_flow_going, t_flow_wanted, t_flow_lends, t_flow_borrows, t_flow_worth, t_flow_chosen, t_flow_reach, t_flow_via, t_now_town_memo_gains) => bd_X11_climb_0 t_now_town_persons t_now_town_deals t_now_town_borrower t_now_town_borrowerGain t_now_town_byYear t_now_town_either t_now_town_lender t_now_town_lenderGain t_now_town_limit t_now_town_year v2 v3 t_changes t_flow_room t_flow_going t_flow_wanted t_flow_lends t_flow_borrows t_flow_worth t_flow_chosen t_flow_reach t_flow_via t_now_town_memo_gains
noncomputable def gn_X11_climb_0 (t_now_town_persons : Int32) (t_now_town_deals : Int32) (t_now_town_borrower : Nat → Int32) (t_now_town_borrowerGain : Nat → Int32) (t_now_town_byYear : Nat → Int32) (t_now_town_either : Nat → Int32) (t_now_town_lender : Nat → Int32) (t_now_town_lenderGain : Nat → Int32) (t_now_town_limit : Nat → Int32) (t_now_town_year : Nat → Int32) (v2 : Int32) (v3 : Int32) (t_changes : Int32) (t_flow_room : Nat → Int32) (t_flow_going : Int32) (t_flow_wanted : Nat → Int32) (t_flow_lends : Nat → Int32) (t_flow_borrows : Nat → Int32) (t_flow_worth : Nat → Int32) (t_flow_chosen : Int32) (t_flow_reach : Nat → Int32) (t_flow_via : Nat → Int32) (t_now_town_memo_gains : Nat → Int32) : Option (Int32 × Int32 × (Nat → Int32) × Int32 × (Nat → Int32) × (Nat → Int32) × (Nat → Int32) × (Nat → Int32) × Int32 × (Nat → Int32) × (Nat → Int32) × (Nat → Int32)) := lpC (st_X11_climb t_now_town_persons t_now_town_deals t_now_town_borrower t_now_town_borrowerGain t_now_town_byYear t_now_town_either t_now_town_lender t_now_town_lenderGain t_now_town_limit t_now_town_year) ((v2, v3, t_changes, t_flow_room, t_flow_going, t_flow_wanted, t_flow_lends, t_flow_borrows, t_flow_worth, t_flow_chosen, t_flow_reach, t_flow_via, t_now_town_memo_gains))
theorem gq_X11_climb_0 (t_now_town_persons : Int32) (t_now_town_deals : Int32) (t_now_town_borrower : Nat → Int32) (t_now_town_borrowerGain : Nat → Int32) (t_now_town_byYear : Nat → Int32) (t_now_town_either : Nat → Int32) (t_now_town_lender : Nat → Int32) (t_now_town_lenderGain : Nat → Int32) (t_now_town_limit : Nat → Int32) (t_now_town_year : Nat → Int32) (v2 : Int32) (v3 : Int32) (t_changes : Int32) (t_flow_room : Nat → Int32) (t_flow_going : Int32) (t_flow_wanted : Nat → Int32) (t_flow_lends : Nat → Int32) (t_flow_borrows : Nat → Int32) (t_flow_worth : Nat → Int32) (t_flow_chosen : Int32) (t_flow_reach : Nat → Int32) (t_flow_via : Nat → Int32) (t_now_town_memo_gains : Nat → Int32) : gn_X11_climb_0 t_now_town_persons t_now_town_deals t_now_town_borrower t_now_town_borrowerGain t_now_town_byYear t_now_town_either t_now_town_lender t_now_town_lenderGain t_now_town_limit t_now_town_year v2 v3 t_changes t_flow_room t_flow_going t_flow_wanted t_flow_lends t_flow_borrows t_flow_worth t_flow_chosen t_flow_reach t_flow_via t_now_town_memo_gains =
    if (1024 : Int32) ≤ v3 then
      some (v2, t_changes, t_flow_room, t_flow_going, t_flow_wanted, t_flow_lends, t_flow_borrows, t_flow_worth, t_flow_chosen, t_flow_reach, t_flow_via, t_now_town_memo_gains)
    else
      Option.bind (dn_X11_firstBetter t_flow_going t_flow_chosen t_flow_borrows t_flow_lends t_flow_reach t_flow_room t_flow_via t_flow_wanted t_flow_worth t_now_town_persons t_now_town_deals t_now_town_borrower t_now_town_borrowerGain t_now_town_byYear t_now_town_either t_now_town_lender t_now_town_lenderGain t_now_town_limit t_now_town_memo_gains t_now_town_year v2) fun q4 =>
      if q4.1 = v2 then
        some (v2, t_changes, q4.2.1, q4.2.2.1, q4.2.2.2.1, q4.2.2.2.2.1, q4.2.2.2.2.2.1, q4.2.2.2.2.2.2.1, q4.2.2.2.2.2.2.2.1, q4.2.2.2.2.2.2.2.2.1, q4.2.2.2.2.2.2.2.2.2.1, q4.2.2.2.2.2.2.2.2.2.2)
      else
        gn_X11_climb_0 t_now_town_persons t_now_town_deals t_now_town_borrower t_now_town_borrowerGain t_now_town_byYear t_now_town_either t_now_town_lender t_now_town_lenderGain t_now_town_limit t_now_town_year q4.1 (v3 + 1) (t_changes + 1) q4.2.1 q4.2.2.1 q4.2.2.2.1 q4.2.2.2.2.1 q4.2.2.2.2.2.1 q4.2.2.2.2.2.2.1 q4.2.2.2.2.2.2.2.1 q4.2.2.2.2.2.2.2.2.1 q4.2.2.2.2.2.2.2.2.2.1 q4.2.2.2.2.2.2.2.2.2.2 := by
  rw [gn_X11_climb_0, lpC_eq]
  show lpO _ (bd_X11_climb_0 t_now_town_persons t_now_town_deals t_now_town_borrower t_now_town_borrowerGain t_now_town_byYear t_now_town_either t_now_town_lender t_now_town_lenderGain t_now_town_limit t_now_town_year v2 v3 t_changes t_flow_room t_flow_going t_flow_wanted t_flow_lends t_flow_borrows t_flow_worth t_flow_chosen t_flow_reach t_flow_via t_now_town_memo_gains) = _
  unfold bd_X11_climb_0
  simp only [lpO_ite, lpO_bind, lpO_none, lpO_l, lpO_r]
  try rfl
noncomputable def dn_X11_climb (t_changes : Int32) (t_flow_going : Int32) (t_flow_chosen : Int32) (t_flow_borrows : Nat → Int32) (t_flow_lends : Nat → Int32) (t_flow_reach : Nat → Int32) (t_flow_room : Nat → Int32) (t_flow_via : Nat → Int32) (t_flow_wanted : Nat → Int32) (t_flow_worth : Nat → Int32) (t_now_town_persons : Int32) (t_now_town_deals : Int32) (t_now_town_borrower : Nat → Int32) (t_now_town_borrowerGain : Nat → Int32) (t_now_town_byYear : Nat → Int32) (t_now_town_either : Nat → Int32) (t_now_town_lender : Nat → Int32) (t_now_town_lenderGain : Nat → Int32) (t_now_town_limit : Nat → Int32) (t_now_town_memo_gains : Nat → Int32) (t_now_town_year : Nat → Int32) (p1 : Int32) : Option (Int32 × Int32 × (Nat → Int32) × Int32 × (Nat → Int32) × (Nat → Int32) × (Nat → Int32) × (Nat → Int32) × Int32 × (Nat → Int32) × (Nat → Int32) × (Nat → Int32)) :=
  Option.bind (dn_X10_hasParts t_now_town_persons p1) fun q1 =>
  if q1 = true then
    gn_X11_climb_0 t_now_town_persons t_now_town_deals t_now_town_borrower t_now_town_borrowerGain t_now_town_byYear t_now_town_either t_now_town_lender t_now_town_lenderGain t_now_town_limit t_now_town_year p1 0 0 t_flow_room t_flow_going t_flow_wanted t_flow_lends t_flow_borrows t_flow_worth t_flow_chosen t_flow_reach t_flow_via t_now_town_memo_gains
  else
    some ((-1), t_changes, t_flow_room, t_flow_going, t_flow_wanted, t_flow_lends, t_flow_borrows, t_flow_worth, t_flow_chosen, t_flow_reach, t_flow_via, t_now_town_memo_gains)
noncomputable def dn_X11_climbed (t_changes : Int32) : Option (Int32) :=
  some t_changes
noncomputable def dn_X11_told (t_now_town_toldParts : Int32) : Option (Int32) :=
  some t_now_town_toldParts
noncomputable def dn_X11_own (t_now_town_persons : Int32) (t_now_town_deals : Int32) (t_now_town_borrower : Nat → Int32) (t_now_town_borrowerGain : Nat → Int32) (t_now_town_either : Nat → Int32) (t_now_town_lender : Nat → Int32) (t_now_town_lenderGain : Nat → Int32) (p1 : Int32) (p2 : Int32) : Option (Int32) :=
  Option.bind (dn_X10_hasPerson t_now_town_persons p1) fun q1 =>
  if q1 = true then
    Option.bind (dn_X10_hasParts t_now_town_persons p2) fun q3 =>
    if q3 = true then
      Option.bind (dn_X10_ownOf t_now_town_deals t_now_town_borrower t_now_town_borrowerGain t_now_town_either t_now_town_lender t_now_town_lenderGain p1 p2) fun q5 =>
      some q5
    else
      some (-1)
  else
    some (-1)
noncomputable def bd_X11_findRests_0 (p1_persons : Int32) (p1_deals : Int32) (p1_borrower : Nat → Int32) (p1_borrowerGain : Nat → Int32) (p1_either : Nat → Int32) (p1_lender : Nat → Int32) (p1_lenderGain : Nat → Int32) (v2 : Int32) (p2_restCount : Int32) (p2_rests : Nat → Int32) : Option (((Int32 × Int32 × (Nat → Int32))) ⊕ (Int32 × (Nat → Int32))) :=
  Option.bind (dn_X10_partsCount p1_persons) fun q1 =>
  if q1 ≤ v2 then
    some (.inr (p2_restCount, p2_rests))
  else
    Option.bind (dn_X10_isAtRest p1_persons p1_deals p1_borrower p1_borrowerGain p1_either p1_lender p1_lenderGain v2) fun q3 =>
    if q3 = true then
      if inb p2_restCount 1024 = true then
      some (.inl (v2 + 1, p2_restCount + 1, upd p2_rests (p2_restCount).toNatClampNeg v2))
      else none
    else
      some (.inl (v2 + 1, p2_restCount, p2_rests))
noncomputable def st_X11_findRests (p1_persons : Int32) (p1_deals : Int32) (p1_borrower : Nat → Int32) (p1_borrowerGain : Nat → Int32) (p1_either : Nat → Int32) (p1_lender : Nat → Int32) (p1_lenderGain : Nat → Int32) : ((Int32 × Int32 × (Nat → Int32))) → Option (((Int32 × Int32 × (Nat → Int32))) ⊕ (Int32 × (Nat → Int32))) := fun s => match s with
  | (v2, p2_restCount, p2_rests) => bd_X11_findRests_0 p1_persons p1_deals p1_borrower p1_borrowerGain p1_either p1_lender p1_lenderGain v2 p2_restCount p2_rests
noncomputable def gn_X11_findRests_0 (p1_persons : Int32) (p1_deals : Int32) (p1_borrower : Nat → Int32) (p1_borrowerGain : Nat → Int32) (p1_either : Nat → Int32) (p1_lender : Nat → Int32) (p1_lenderGain : Nat → Int32) (v2 : Int32) (p2_restCount : Int32) (p2_rests : Nat → Int32) : Option (Int32 × (Nat → Int32)) := lpC (st_X11_findRests p1_persons p1_deals p1_borrower p1_borrowerGain p1_either p1_lender p1_lenderGain) ((v2, p2_restCount, p2_rests))
theorem gq_X11_findRests_0 (p1_persons : Int32) (p1_deals : Int32) (p1_borrower : Nat → Int32) (p1_borrowerGain : Nat → Int32) (p1_either : Nat → Int32) (p1_lender : Nat → Int32) (p1_lenderGain : Nat → Int32) (v2 : Int32) (p2_restCount : Int32) (p2_rests : Nat → Int32) : gn_X11_findRests_0 p1_persons p1_deals p1_borrower p1_borrowerGain p1_either p1_lender p1_lenderGain v2 p2_restCount p2_rests =
    Option.bind (dn_X10_partsCount p1_persons) fun q1 =>
    if q1 ≤ v2 then
      some (p2_restCount, p2_rests)
    else
      Option.bind (dn_X10_isAtRest p1_persons p1_deals p1_borrower p1_borrowerGain p1_either p1_lender p1_lenderGain v2) fun q3 =>
      if q3 = true then
        if inb p2_restCount 1024 = true then
        gn_X11_findRests_0 p1_persons p1_deals p1_borrower p1_borrowerGain p1_either p1_lender p1_lenderGain (v2 + 1) (p2_restCount + 1) (upd p2_rests (p2_restCount).toNatClampNeg v2)
        else none
      else
        gn_X11_findRests_0 p1_persons p1_deals p1_borrower p1_borrowerGain p1_either p1_lender p1_lenderGain (v2 + 1) p2_restCount p2_rests := by
  rw [gn_X11_findRests_0, lpC_eq]
  show lpO _ (bd_X11_findRests_0 p1_persons p1_deals p1_borrower p1_borrowerGain p1_either p1_lender p1_lenderGain v2 p2_restCount p2_rests) = _
  unfold bd_X11_findRests_0
  simp only [lpO_ite, lpO_bind, lpO_none, lpO_l, lpO_r]
  try rfl
noncomputable def dn_X11_findRests (p1_persons : Int32) (p1_deals : Int32) (p1_borrower : Nat → Int32) (p1_borrowerGain : Nat → Int32) (p1_either : Nat → Int32) (p1_lender : Nat → Int32) (p1_lenderGain : Nat → Int32) (p2_rests : Nat → Int32) : Option (Int32 × (Nat → Int32)) :=
  gn_X11_findRests_0 p1_persons p1_deals p1_borrower p1_borrowerGain p1_either p1_lender p1_lenderGain 0 0 p2_rests
noncomputable def bd_X11_rests_0 (p1 : Int32) (t_now_town_memo_restCount : Int32) (t_now_town_memo_rests : Nat → Int32) : Option (((Int32 × (Nat → Int32))) ⊕ (Int32 × Int32 × (Nat → Int32))) :=
  if p1 = (-1) then
    some (.inr (t_now_town_memo_restCount, t_now_town_memo_restCount, t_now_town_memo_rests))
  else
    if p1 < 0 then
      some (.inr ((-1), t_now_town_memo_restCount, t_now_town_memo_rests))
    else
      if t_now_town_memo_restCount ≤ p1 then
        some (.inr ((-1), t_now_town_memo_restCount, t_now_town_memo_rests))
      else
        if p1 < 1024 then
          if inb p1 1024 = true then
          some (.inr (t_now_town_memo_rests (p1).toNatClampNeg, t_now_town_memo_restCount, t_now_town_memo_rests))
          else none
        else
          some (.inr ((-1), t_now_town_memo_restCount, t_now_town_memo_rests))
noncomputable def st_X11_rests (p1 : Int32) : ((Int32 × (Nat → Int32))) → Option (((Int32 × (Nat → Int32))) ⊕ (Int32 × Int32 × (Nat → Int32))) := fun s => match s with
  | (t_now_town_memo_restCount, t_now_town_memo_rests) => bd_X11_rests_0 p1 t_now_town_memo_restCount t_now_town_memo_rests
noncomputable def gn_X11_rests_0 (p1 : Int32) (t_now_town_memo_restCount : Int32) (t_now_town_memo_rests : Nat → Int32) : Option (Int32 × Int32 × (Nat → Int32)) := lpC (st_X11_rests p1) ((t_now_town_memo_restCount, t_now_town_memo_rests))
theorem gq_X11_rests_0 (p1 : Int32) (t_now_town_memo_restCount : Int32) (t_now_town_memo_rests : Nat → Int32) : gn_X11_rests_0 p1 t_now_town_memo_restCount t_now_town_memo_rests =
    if p1 = (-1) then
      some (t_now_town_memo_restCount, t_now_town_memo_restCount, t_now_town_memo_rests)
    else
      if p1 < 0 then
        some ((-1), t_now_town_memo_restCount, t_now_town_memo_rests)
      else
        if t_now_town_memo_restCount ≤ p1 then
          some ((-1), t_now_town_memo_restCount, t_now_town_memo_rests)
        else
          if p1 < 1024 then
            if inb p1 1024 = true then
            some (t_now_town_memo_rests (p1).toNatClampNeg, t_now_town_memo_restCount, t_now_town_memo_rests)
            else none
          else
            some ((-1), t_now_town_memo_restCount, t_now_town_memo_rests) := by
  rw [gn_X11_rests_0, lpC_eq]
  show lpO _ (bd_X11_rests_0 p1 t_now_town_memo_restCount t_now_town_memo_rests) = _
  unfold bd_X11_rests_0
  simp only [lpO_ite, lpO_bind, lpO_none, lpO_l, lpO_r]
  try rfl
noncomputable def dn_X11_rests (t_now_town_persons : Int32) (t_now_town_deals : Int32) (t_now_town_borrower : Nat → Int32) (t_now_town_borrowerGain : Nat → Int32) (t_now_town_either : Nat → Int32) (t_now_town_lender : Nat → Int32) (t_now_town_lenderGain : Nat → Int32) (t_now_town_memo_restCount : Int32) (t_now_town_memo_rests : Nat → Int32) (p1 : Int32) : Option (Int32 × Int32 × (Nat → Int32)) :=
  if t_now_town_memo_restCount = (-1) then
    Option.bind (dn_X11_findRests t_now_town_persons t_now_town_deals t_now_town_borrower t_now_town_borrowerGain t_now_town_either t_now_town_lender t_now_town_lenderGain t_now_town_memo_rests) fun q2 =>
    gn_X11_rests_0 p1 q2.1 q2.2
  else
    gn_X11_rests_0 p1 t_now_town_memo_restCount t_now_town_memo_rests
noncomputable def dn_X11_rounds (t_now_town_persons : Int32) (t_now_town_deals : Int32) (t_now_town_borrower : Nat → Int32) (t_now_town_borrowerGain : Nat → Int32) (t_now_town_either : Nat → Int32) (t_now_town_lender : Nat → Int32) (t_now_town_lenderGain : Nat → Int32) (t_ring_known : Int32) (t_ring_lastParts : Int32) (t_ring_length : Int32) (t_ring_behindRound : Nat → Int32) (p1 : Int32) : Option (Int32 × (Nat → Int32) × Int32 × Int32 × Int32) :=
  Option.bind (dn_X10_hasParts t_now_town_persons p1) fun q1 =>
  if q1 = true then
    Option.bind (dn_X7_follow t_ring_behindRound t_now_town_persons t_now_town_deals t_now_town_borrower t_now_town_borrowerGain t_now_town_either t_now_town_lender t_now_town_lenderGain p1) fun q3 =>
    some (q3.1, q3.2.1, q3.2.2.1, q3.2.2.2.1, q3.2.2.2.2)
  else
    some ((-1), t_ring_behindRound, t_ring_known, t_ring_lastParts, t_ring_length)
noncomputable def dn_X11_ended (t_ring_known : Int32) (t_ring_lastParts : Int32) (t_ring_length : Int32) (p1 : Int32) : Option (Int32) :=
  if t_ring_known = 0 then
    some (-1)
  else
    if p1 = 0 then
      some t_ring_lastParts
    else
      if p1 = 1 then
        some t_ring_length
      else
        some (-1)
noncomputable def dn_X11_one (t_choice_kept : Int32) (t_choice_boundYears : Int32) (t_choice_borrowing : Nat → Int32) (t_choice_lending : Nat → Int32) (t_choice_most : Nat → Int32) (t_choice_row : Nat → Int32) (t_now_town_persons : Int32) (t_now_town_deals : Int32) (t_now_town_lawYears : Int32) (t_now_town_borrower : Nat → Int32) (t_now_town_borrowerGain : Nat → Int32) (t_now_town_either : Nat → Int32) (t_now_town_lender : Nat → Int32) (t_now_town_lenderGain : Nat → Int32) (t_now_town_year : Nat → Int32) (p1 : Int32) (p2 : Int32) : Option (Int32 × Int32 × (Nat → Int32) × (Nat → Int32) × (Nat → Int32) × Int32 × (Nat → Int32)) :=
  Option.bind (dn_X10_hasPerson t_now_town_persons p1) fun q1 =>
  if q1 = true then
    Option.bind (dn_X10_hasParts t_now_town_persons p2) fun q3 =>
    if q3 = true then
      Option.bind (dn_X1_reckon t_choice_boundYears t_choice_borrowing t_choice_lending t_choice_most t_now_town_deals t_now_town_borrower t_now_town_borrowerGain t_now_town_either t_now_town_lender t_now_town_lenderGain t_now_town_year p1 p2 t_now_town_lawYears) fun q5 =>
      Option.bind (dn_X1_keepRow q5.1 q5.2.2.1 q5.2.1 q5.2.2.2 t_choice_row) fun q6 =>
      some (q5.2.2.2 (0 : Int32).toNatClampNeg, q5.1, q5.2.1, q5.2.2.1, q5.2.2.2, q6.1, q6.2)
    else
      some ((-1), t_choice_boundYears, t_choice_lending, t_choice_borrowing, t_choice_most, t_choice_kept, t_choice_row)
  else
    some ((-1), t_choice_boundYears, t_choice_lending, t_choice_borrowing, t_choice_most, t_choice_kept, t_choice_row)
noncomputable def dn_X11_oneBy (t_choice_boundYears : Int32) (t_choice_borrowing : Nat → Int32) (t_choice_lending : Nat → Int32) (t_choice_most : Nat → Int32) (t_now_town_persons : Int32) (t_now_town_deals : Int32) (t_now_town_borrower : Nat → Int32) (t_now_town_borrowerGain : Nat → Int32) (t_now_town_either : Nat → Int32) (t_now_town_lender : Nat → Int32) (t_now_town_lenderGain : Nat → Int32) (t_now_town_year : Nat → Int32) (p1 : Int32) (p2 : Int32) (p3 : Int32) : Option (Int32 × Int32 × (Nat → Int32) × (Nat → Int32) × (Nat → Int32)) :=
  Option.bind (dn_X10_hasPerson t_now_town_persons p1) fun q1 =>
  if q1 = true then
    Option.bind (dn_X10_hasParts t_now_town_persons p2) fun q3 =>
    if q3 = true then
      if p3 < 0 then
        some ((-1), t_choice_boundYears, t_choice_lending, t_choice_borrowing, t_choice_most)
      else
        if p3 ≤ 60 then
          Option.bind (dn_X1_reckon t_choice_boundYears t_choice_borrowing t_choice_lending t_choice_most t_now_town_deals t_now_town_borrower t_now_town_borrowerGain t_now_town_either t_now_town_lender t_now_town_lenderGain t_now_town_year p1 p2 p3) fun q7 =>
          some (q7.2.2.2 (0 : Int32).toNatClampNeg, q7.1, q7.2.1, q7.2.2.1, q7.2.2.2)
        else
          some ((-1), t_choice_boundYears, t_choice_lending, t_choice_borrowing, t_choice_most)
    else
      some ((-1), t_choice_boundYears, t_choice_lending, t_choice_borrowing, t_choice_most)
  else
    some ((-1), t_choice_boundYears, t_choice_lending, t_choice_borrowing, t_choice_most)
noncomputable def dn_X11_lawful (t_now_town_deals : Int32) (t_now_town_lawYears : Int32) (t_now_town_borrower : Nat → Int32) (t_now_town_borrowerGain : Nat → Int32) (t_now_town_byYear : Nat → Int32) (t_now_town_either : Nat → Int32) (t_now_town_lender : Nat → Int32) (t_now_town_lenderGain : Nat → Int32) (t_now_town_limit : Nat → Int32) (t_now_town_memo_lawfulGain : Int32) (t_now_town_memo_lawfulWays : Nat → Int32) (t_now_town_year : Nat → Int32) (t_search_toldDeals : Int32) (t_search_ahead : Nat → Int32) (t_search_toldWays : Nat → Int32) (t_search_trial_size : Int32) (t_search_trial_deal : Nat → Int32) (t_search_trial_foundNothing : Nat → Int32) (t_search_trial_way : Nat → Int32) (t_search_ways : Nat → Int32) : Option (Int32 × (Nat → Int32) × (Nat → Int32) × Int32 × Int32 × Int32 × (Nat → Int32) × (Nat → Int32) × (Nat → Int32) × (Nat → Int32) × (Nat → Int32)) :=
  if t_now_town_deals ≤ 12 then
    Option.bind (dn_X3_reckon t_search_toldDeals t_search_ahead t_search_toldWays t_search_trial_size t_search_trial_deal t_search_trial_foundNothing t_search_trial_way t_search_ways t_now_town_deals t_now_town_lawYears t_now_town_borrower t_now_town_borrowerGain t_now_town_byYear t_now_town_either t_now_town_lender t_now_town_lenderGain t_now_town_limit t_now_town_memo_lawfulGain t_now_town_memo_lawfulWays t_now_town_year) fun q2 =>
    some (q2.1, q2.2.1, q2.2.2.1, q2.2.2.2.1, q2.2.2.2.2.1, q2.2.2.2.2.2.1, q2.2.2.2.2.2.2.1, q2.2.2.2.2.2.2.2.1, q2.2.2.2.2.2.2.2.2.1, q2.2.2.2.2.2.2.2.2.2.1, q2.2.2.2.2.2.2.2.2.2.2)
  else
    some ((-1), t_search_ahead, t_search_toldWays, t_search_toldDeals, t_search_trial_size, t_now_town_memo_lawfulGain, t_now_town_memo_lawfulWays, t_search_ways, t_search_trial_deal, t_search_trial_way, t_search_trial_foundNothing)
noncomputable def dn_X11_lawfulBy (t_search_toldDeals : Int32) (t_search_toldWays : Nat → Int32) (p1 : Int32) : Option (Int32) :=
  if p1 < 0 then
    some (-1)
  else
    if t_search_toldDeals ≤ p1 then
      some (-1)
    else
      if p1 < 12 then
        if inb p1 12 = true then
        some (t_search_toldWays (p1).toNatClampNeg)
        else none
      else
        some (-1)
noncomputable def dn_X11_oneIs (t_choice_kept : Int32) (t_choice_row : Nat → Int32) (p1 : Int32) : Option (Int32) :=
  if t_choice_kept = 0 then
    some (-1)
  else
    Option.bind (dn_X11_isYear p1) fun q2 =>
    if q2 = true then
      if inb p1 60 = true then
      some (t_choice_row (p1).toNatClampNeg)
      else none
    else
      some (-1)
noncomputable def bd_X11_fewest_0 (t_now_town_persons : Int32) (t_now_town_deals : Int32) (t_now_town_borrower : Nat → Int32) (t_now_town_either : Nat → Int32) (t_now_town_lender : Nat → Int32) (v2 : Int32) (v3 : Int32) (v4 : Int32) : Option (((Int32 × Int32 × Int32) ⊕ ((Int32 × Int32 × Int32 × Int32))) ⊕ (Int32)) :=
  Option.bind (dn_X10_partsCount t_now_town_persons) fun q2 =>
  if q2 ≤ v4 then
    some (.inr v3)
  else
    Option.bind (dn_J6_bitCount_0f7a4 v4) fun q4 =>
    Option.bind (dn_J6_bitCount_0f7a4 v3) fun q5 =>
    if q5 ≤ q4 then
      some (.inl (.inr ((v2, v3, v4, 0))))
    else
      some (.inl (.inr ((v2, v3, v4, 1))))
noncomputable def bd_X11_fewest_1 (t_now_town_persons : Int32) (t_now_town_deals : Int32) (t_now_town_borrower : Nat → Int32) (t_now_town_either : Nat → Int32) (t_now_town_lender : Nat → Int32) (v2 : Int32) (v3 : Int32) (v4 : Int32) (k0 : Int32) : Option (((Int32 × Int32 × Int32) ⊕ ((Int32 × Int32 × Int32 × Int32))) ⊕ (Int32)) :=
  if k0 = 0 then
    some (.inl (.inl (v2, v3, v4 + 1)))
  else
    if (v4 &&& (v2 ^^^ (-1))) = 0 then
      Option.bind (dn_X10_allServed t_now_town_deals t_now_town_borrower t_now_town_either t_now_town_lender v4 v2) fun q9 =>
      if q9 = true then
        some (.inl (.inl (v2, v4, v4 + 1)))
      else
        some (.inl (.inl (v2, v3, v4 + 1)))
    else
      some (.inl (.inl (v2, v3, v4 + 1)))
noncomputable def st_X11_fewest (t_now_town_persons : Int32) (t_now_town_deals : Int32) (t_now_town_borrower : Nat → Int32) (t_now_town_either : Nat → Int32) (t_now_town_lender : Nat → Int32) : ((Int32 × Int32 × Int32) ⊕ ((Int32 × Int32 × Int32 × Int32))) → Option (((Int32 × Int32 × Int32) ⊕ ((Int32 × Int32 × Int32 × Int32))) ⊕ (Int32)) := fun s => match s with
  | .inl (v2, v3, v4) => bd_X11_fewest_0 t_now_town_persons t_now_town_deals t_now_town_borrower t_now_town_either t_now_town_lender v2 v3 v4
  | .inr ((v2, v3, v4, k0)) => bd_X11_fewest_1 t_now_town_persons t_now_town_deals t_now_town_borrower t_now_town_either t_now_town_lender v2 v3 v4 k0
noncomputable def gn_X11_fewest_0 (t_now_town_persons : Int32) (t_now_town_deals : Int32) (t_now_town_borrower : Nat → Int32) (t_now_town_either : Nat → Int32) (t_now_town_lender : Nat → Int32) (v2 : Int32) (v3 : Int32) (v4 : Int32) : Option (Int32) := lpC (st_X11_fewest t_now_town_persons t_now_town_deals t_now_town_borrower t_now_town_either t_now_town_lender) (.inl (v2, v3, v4))
noncomputable def gn_X11_fewest_1 (t_now_town_persons : Int32) (t_now_town_deals : Int32) (t_now_town_borrower : Nat → Int32) (t_now_town_either : Nat → Int32) (t_now_town_lender : Nat → Int32) (v2 : Int32) (v3 : Int32) (v4 : Int32) (k0 : Int32) : Option (Int32) := lpC (st_X11_fewest t_now_town_persons t_now_town_deals t_now_town_borrower t_now_town_either t_now_town_lender) (.inr ((v2, v3, v4, k0)))
theorem gq_X11_fewest_0 (t_now_town_persons : Int32) (t_now_town_deals : Int32) (t_now_town_borrower : Nat → Int32) (t_now_town_either : Nat → Int32) (t_now_town_lender : Nat → Int32) (v2 : Int32) (v3 : Int32) (v4 : Int32) : gn_X11_fewest_0 t_now_town_persons t_now_town_deals t_now_town_borrower t_now_town_either t_now_town_lender v2 v3 v4 =
    Option.bind (dn_X10_partsCount t_now_town_persons) fun q2 =>
    if q2 ≤ v4 then
      some v3
    else
      Option.bind (dn_J6_bitCount_0f7a4 v4) fun q4 =>
      Option.bind (dn_J6_bitCount_0f7a4 v3) fun q5 =>
      if q5 ≤ q4 then
        gn_X11_fewest_1 t_now_town_persons t_now_town_deals t_now_town_borrower t_now_town_either t_now_town_lender v2 v3 v4 0
      else
        gn_X11_fewest_1 t_now_town_persons t_now_town_deals t_now_town_borrower t_now_town_either t_now_town_lender v2 v3 v4 1 := by
  rw [gn_X11_fewest_0, lpC_eq]
  show lpO _ (bd_X11_fewest_0 t_now_town_persons t_now_town_deals t_now_town_borrower t_now_town_either t_now_town_lender v2 v3 v4) = _
  unfold bd_X11_fewest_0
  simp only [lpO_ite, lpO_bind, lpO_none, lpO_l, lpO_r]
  try rfl
theorem gq_X11_fewest_1 (t_now_town_persons : Int32) (t_now_town_deals : Int32) (t_now_town_borrower : Nat → Int32) (t_now_town_either : Nat → Int32) (t_now_town_lender : Nat → Int32) (v2 : Int32) (v3 : Int32) (v4 : Int32) (k0 : Int32) : gn_X11_fewest_1 t_now_town_persons t_now_town_deals t_now_town_borrower t_now_town_either t_now_town_lender v2 v3 v4 k0 =
    if k0 = 0 then
      gn_X11_fewest_0 t_now_town_persons t_now_town_deals t_now_town_borrower t_now_town_either t_now_town_lender v2 v3 (v4 + 1)
    else
      if (v4 &&& (v2 ^^^ (-1))) = 0 then
        Option.bind (dn_X10_allServed t_now_town_deals t_now_town_borrower t_now_town_either t_now_town_lender v4 v2) fun q9 =>
        if q9 = true then
          gn_X11_fewest_0 t_now_town_persons t_now_town_deals t_now_town_borrower t_now_town_either t_now_town_lender v2 v4 (v4 + 1)
        else
          gn_X11_fewest_0 t_now_town_persons t_now_town_deals t_now_town_borrower t_now_town_either t_now_town_lender v2 v3 (v4 + 1)
      else
        gn_X11_fewest_0 t_now_town_persons t_now_town_deals t_now_town_borrower t_now_town_either t_now_town_lender v2 v3 (v4 + 1) := by
  rw [gn_X11_fewest_1, lpC_eq]
  show lpO _ (bd_X11_fewest_1 t_now_town_persons t_now_town_deals t_now_town_borrower t_now_town_either t_now_town_lender v2 v3 v4 k0) = _
  unfold bd_X11_fewest_1
  simp only [lpO_ite, lpO_bind, lpO_none, lpO_l, lpO_r]
  try rfl
noncomputable def dn_X11_fewest (t_now_town_persons : Int32) (t_now_town_deals : Int32) (t_now_town_borrower : Nat → Int32) (t_now_town_either : Nat → Int32) (t_now_town_lender : Nat → Int32) : Option (Int32) :=
  Option.bind (dn_X10_personsWithDeals t_now_town_deals t_now_town_borrower t_now_town_lender) fun q1 =>
  gn_X11_fewest_0 t_now_town_persons t_now_town_deals t_now_town_borrower t_now_town_either t_now_town_lender q1 q1 0
noncomputable def dn_X11_meet (t_meetings_likeSide : Int32) (t_meetings_otherSide : Int32) (t_meetings_first : Nat → Int32) (t_meetings_near : Nat → Int32) (t_meetings_second : Nat → Int32) (t_now_town_persons : Int32) (t_tape_size : Int32) (t_tape_bytes : Nat → Int32) : Option (Int32 × Int32 × Int32 × (Nat → Int32) × (Nat → Int32) × (Nat → Int32) × Int32 × Int32 × Int32) :=
  Option.bind (dn_X4_take t_meetings_first t_meetings_near t_meetings_second t_tape_size t_tape_bytes t_now_town_persons) fun q1 =>
  Option.bind (dn_X9_cut 0) fun q2 =>
  if q1.1 = true then
    Option.bind (dn_X4_waysToBe q1.2.2.1 t_meetings_likeSide t_meetings_otherSide q1.2.2.2.1) fun q4 =>
    some (q4.1, q1.2.1, q1.2.2.1, q1.2.2.2.1, q1.2.2.2.2.1, q1.2.2.2.2.2, q2, q4.2.1, q4.2.2)
  else
    some ((-1), q1.2.1, q1.2.2.1, q1.2.2.2.1, q1.2.2.2.2.1, q1.2.2.2.2.2, q2, t_meetings_likeSide, t_meetings_otherSide)
noncomputable def dn_X11_must (t_meetings_likeSide : Int32) (t_meetings_otherSide : Int32) (t_meetings_first : Nat → Int32) (t_meetings_near : Nat → Int32) (t_meetings_second : Nat → Int32) (t_now_town_persons : Int32) (t_tape_size : Int32) (t_tape_bytes : Nat → Int32) (p1 : Int32) : Option (Int32 × Int32 × Int32 × (Nat → Int32) × (Nat → Int32) × (Nat → Int32) × Int32 × Int32 × Int32) :=
  Option.bind (dn_X4_take t_meetings_first t_meetings_near t_meetings_second t_tape_size t_tape_bytes t_now_town_persons) fun q1 =>
  Option.bind (dn_X9_cut 0) fun q2 =>
  if q1.1 = true then
    if p1 < 0 then
      some ((-1), q1.2.1, q1.2.2.1, q1.2.2.2.1, q1.2.2.2.2.1, q1.2.2.2.2.2, q2, t_meetings_likeSide, t_meetings_otherSide)
    else
      if p1 ≤ 1 then
        if p1 = 0 then
          Option.bind (dn_X4_bound q1.2.2.1 t_meetings_likeSide t_meetings_otherSide q1.2.2.2.1 1) fun q8 =>
          some (q8.1, q1.2.1, q1.2.2.1, q1.2.2.2.1, q1.2.2.2.2.1, q1.2.2.2.2.2, q2, q8.2.1, q8.2.2)
        else
          Option.bind (dn_X4_bound q1.2.2.1 t_meetings_likeSide t_meetings_otherSide q1.2.2.2.1 0) fun q7 =>
          some (q7.1, q1.2.1, q1.2.2.1, q1.2.2.2.1, q1.2.2.2.2.1, q1.2.2.2.2.2, q2, q7.2.1, q7.2.2)
      else
        some ((-1), q1.2.1, q1.2.2.1, q1.2.2.2.1, q1.2.2.2.2.1, q1.2.2.2.2.2, q2, t_meetings_likeSide, t_meetings_otherSide)
  else
    some ((-1), q1.2.1, q1.2.2.1, q1.2.2.2.1, q1.2.2.2.2.1, q1.2.2.2.2.2, q2, t_meetings_likeSide, t_meetings_otherSide)
noncomputable def dn_X11_wrongly (t_meetings_first : Nat → Int32) (t_meetings_near : Nat → Int32) (t_meetings_second : Nat → Int32) (t_now_town_persons : Int32) (t_tape_size : Int32) (t_tape_bytes : Nat → Int32) : Option (Int32 × Int32 × Int32 × (Nat → Int32) × (Nat → Int32) × (Nat → Int32) × Int32) :=
  Option.bind (dn_X4_take t_meetings_first t_meetings_near t_meetings_second t_tape_size t_tape_bytes t_now_town_persons) fun q1 =>
  Option.bind (dn_X9_cut 0) fun q2 =>
  if q1.1 = true then
    if q1.2.1 ≤ 16 then
      Option.bind (dn_X10_partsCount t_now_town_persons) fun q5 =>
      Option.bind (dn_X4_fewestFalse q1.2.1 q1.2.2.2.2.1 q1.2.2.2.2.2 q5) fun q6 =>
      some (q6, q1.2.1, q1.2.2.1, q1.2.2.2.1, q1.2.2.2.2.1, q1.2.2.2.2.2, q2)
    else
      some ((-1), q1.2.1, q1.2.2.1, q1.2.2.2.1, q1.2.2.2.2.1, q1.2.2.2.2.2, q2)
  else
    some ((-1), q1.2.1, q1.2.2.1, q1.2.2.2.1, q1.2.2.2.2.1, q1.2.2.2.2.2, q2)
noncomputable def bd_X11_goesBetween_0 (t_now_book_size : Int32) (t_now_book_deal : Nat → Int32) (t_now_book_foundNothing : Nat → Int32) (t_now_book_way : Nat → Int32) (t_now_town_deals : Int32) (t_now_town_lawYears : Int32) (t_now_town_borrower : Nat → Int32) (t_now_town_either : Nat → Int32) (t_now_town_lender : Nat → Int32) (t_now_town_year : Nat → Int32) (p1 : Int32) (p2 : Int32) (v4 : Int32) (v5 : Int32) (v6 : Int32) : Option (((Int32 × Int32 × Int32) ⊕ ((Int32 × Int32 × Int32 × Int32 × Int32 × Int32) ⊕ ((Int32 × Int32 × Int32 × Int32 × Int32 × Int32) ⊕ ((Int32 × Int32 × Int32 × Int32 × Int32 × Int32) ⊕ ((Int32 × Int32 × Int32 × Int32 × Int32)))))) ⊕ (Bool)) :=
  if t_now_town_deals ≤ v6 then
    if v4 = 0 then
      some (.inr false)
    else
      if v5 = 0 then
        some (.inr false)
      else
        Option.bind (dn_J6_bitCount_0f7a4 (v4 ||| v5)) fun q10 =>
        if q10 ≤ 1 then
          some (.inr false)
        else
          some (.inr true)
  else
    if inb v6 30 = true then
    if (t_now_town_year (v6).toNatClampNeg) = p2 then
      Option.bind (dn_X10_isIn t_now_town_borrower t_now_town_lender v6 p1) fun q14 =>
      if q14 = true then
        Option.bind (dn_X0_wayDone t_now_book_size t_now_book_deal t_now_book_way v6) fun q16 =>
        if q16 = 0 then
          Option.bind (dn_X10_otherIn t_now_town_borrower t_now_town_lender v6 p1) fun q18 =>
          Option.bind (dn_X0_whatIs t_now_book_size t_now_book_deal t_now_book_foundNothing t_now_book_way t_now_town_lawYears t_now_town_borrower t_now_town_lender t_now_town_year q18 p2) fun q19 =>
          if inb v6 30 = true then
          if (t_now_town_either (v6).toNatClampNeg) = 1 then
            some (.inl (.inr (.inl (v4, v5, v6, q18, q19, 1))))
          else
            some (.inl (.inr (.inl (v4, v5, v6, q18, q19, 0))))
          else none
        else
          some (.inl (.inl (v4, v5, v6 + 1)))
      else
        some (.inl (.inl (v4, v5, v6 + 1)))
    else
      some (.inl (.inl (v4, v5, v6 + 1)))
    else none
noncomputable def bd_X11_goesBetween_1 (t_now_book_size : Int32) (t_now_book_deal : Nat → Int32) (t_now_book_foundNothing : Nat → Int32) (t_now_book_way : Nat → Int32) (t_now_town_deals : Int32) (t_now_town_lawYears : Int32) (t_now_town_borrower : Nat → Int32) (t_now_town_either : Nat → Int32) (t_now_town_lender : Nat → Int32) (t_now_town_year : Nat → Int32) (p1 : Int32) (p2 : Int32) (v4 : Int32) (v5 : Int32) (v6 : Int32) (v7 : Int32) (v8 : Int32) (k0 : Int32) : Option (((Int32 × Int32 × Int32) ⊕ ((Int32 × Int32 × Int32 × Int32 × Int32 × Int32) ⊕ ((Int32 × Int32 × Int32 × Int32 × Int32 × Int32) ⊕ ((Int32 × Int32 × Int32 × Int32 × Int32 × Int32) ⊕ ((Int32 × Int32 × Int32 × Int32 × Int32)))))) ⊕ (Bool)) :=
  if inb v6 30 = true then
  if (t_now_town_borrower (v6).toNatClampNeg) = p1 then
    some (.inl (.inr (.inr (.inl (v4, v5, v6, v7, v8, k0)))))
  else
    if k0 = 0 then
      some (.inl (.inr (.inr (.inr (.inl (v4, v5, v6, v7, v8, k0))))))
    else
      some (.inl (.inr (.inr (.inl (v4, v5, v6, v7, v8, k0)))))
  else none
noncomputable def bd_X11_goesBetween_2 (t_now_book_size : Int32) (t_now_book_deal : Nat → Int32) (t_now_book_foundNothing : Nat → Int32) (t_now_book_way : Nat → Int32) (t_now_town_deals : Int32) (t_now_town_lawYears : Int32) (t_now_town_borrower : Nat → Int32) (t_now_town_either : Nat → Int32) (t_now_town_lender : Nat → Int32) (t_now_town_year : Nat → Int32) (p1 : Int32) (p2 : Int32) (v4 : Int32) (v5 : Int32) (v6 : Int32) (v7 : Int32) (v8 : Int32) (v9 : Int32) : Option (((Int32 × Int32 × Int32) ⊕ ((Int32 × Int32 × Int32 × Int32 × Int32 × Int32) ⊕ ((Int32 × Int32 × Int32 × Int32 × Int32 × Int32) ⊕ ((Int32 × Int32 × Int32 × Int32 × Int32 × Int32) ⊕ ((Int32 × Int32 × Int32 × Int32 × Int32)))))) ⊕ (Bool)) :=
  if v8 = 2 then
    some (.inl (.inr (.inr (.inr (.inl (v4, v5, v6, v7, v8, v9))))))
  else
    some (.inl (.inr (.inr (.inr (.inl (v4 ||| ((1 : Int32) <<< (v7 &&& 31)), v5, v6, v7, v8, v9))))))
noncomputable def bd_X11_goesBetween_3 (t_now_book_size : Int32) (t_now_book_deal : Nat → Int32) (t_now_book_foundNothing : Nat → Int32) (t_now_book_way : Nat → Int32) (t_now_town_deals : Int32) (t_now_town_lawYears : Int32) (t_now_town_borrower : Nat → Int32) (t_now_town_either : Nat → Int32) (t_now_town_lender : Nat → Int32) (t_now_town_year : Nat → Int32) (p1 : Int32) (p2 : Int32) (v4 : Int32) (v5 : Int32) (v6 : Int32) (v7 : Int32) (v8 : Int32) (v9 : Int32) : Option (((Int32 × Int32 × Int32) ⊕ ((Int32 × Int32 × Int32 × Int32 × Int32 × Int32) ⊕ ((Int32 × Int32 × Int32 × Int32 × Int32 × Int32) ⊕ ((Int32 × Int32 × Int32 × Int32 × Int32 × Int32) ⊕ ((Int32 × Int32 × Int32 × Int32 × Int32)))))) ⊕ (Bool)) :=
  if inb v6 30 = true then
  if (t_now_town_lender (v6).toNatClampNeg) = p1 then
    some (.inl (.inr (.inr (.inr (.inr ((v4, v5, v6, v7, v8)))))))
  else
    if v9 = 0 then
      some (.inl (.inl (v4, v5, v6 + 1)))
    else
      some (.inl (.inr (.inr (.inr (.inr ((v4, v5, v6, v7, v8)))))))
  else none
noncomputable def bd_X11_goesBetween_4 (t_now_book_size : Int32) (t_now_book_deal : Nat → Int32) (t_now_book_foundNothing : Nat → Int32) (t_now_book_way : Nat → Int32) (t_now_town_deals : Int32) (t_now_town_lawYears : Int32) (t_now_town_borrower : Nat → Int32) (t_now_town_either : Nat → Int32) (t_now_town_lender : Nat → Int32) (t_now_town_year : Nat → Int32) (p1 : Int32) (p2 : Int32) (v4 : Int32) (v5 : Int32) (v6 : Int32) (v7 : Int32) (v8 : Int32) : Option (((Int32 × Int32 × Int32) ⊕ ((Int32 × Int32 × Int32 × Int32 × Int32 × Int32) ⊕ ((Int32 × Int32 × Int32 × Int32 × Int32 × Int32) ⊕ ((Int32 × Int32 × Int32 × Int32 × Int32 × Int32) ⊕ ((Int32 × Int32 × Int32 × Int32 × Int32)))))) ⊕ (Bool)) :=
  if v8 = 1 then
    some (.inl (.inl (v4, v5, v6 + 1)))
  else
    some (.inl (.inl (v4, v5 ||| ((1 : Int32) <<< (v7 &&& 31)), v6 + 1)))
noncomputable def st_X11_goesBetween (t_now_book_size : Int32) (t_now_book_deal : Nat → Int32) (t_now_book_foundNothing : Nat → Int32) (t_now_book_way : Nat → Int32) (t_now_town_deals : Int32) (t_now_town_lawYears : Int32) (t_now_town_borrower : Nat → Int32) (t_now_town_either : Nat → Int32) (t_now_town_lender : Nat → Int32) (t_now_town_year : Nat → Int32) (p1 : Int32) (p2 : Int32) : ((Int32 × Int32 × Int32) ⊕ ((Int32 × Int32 × Int32 × Int32 × Int32 × Int32) ⊕ ((Int32 × Int32 × Int32 × Int32 × Int32 × Int32) ⊕ ((Int32 × Int32 × Int32 × Int32 × Int32 × Int32) ⊕ ((Int32 × Int32 × Int32 × Int32 × Int32)))))) → Option (((Int32 × Int32 × Int32) ⊕ ((Int32 × Int32 × Int32 × Int32 × Int32 × Int32) ⊕ ((Int32 × Int32 × Int32 × Int32 × Int32 × Int32) ⊕ ((Int32 × Int32 × Int32 × Int32 × Int32 × Int32) ⊕ ((Int32 × Int32 × Int32 × Int32 × Int32)))))) ⊕ (Bool)) := fun s => match s with
  | .inl (v4, v5, v6) => bd_X11_goesBetween_0 t_now_book_size t_now_book_deal t_now_book_foundNothing t_now_book_way t_now_town_deals t_now_town_lawYears t_now_town_borrower t_now_town_either t_now_town_lender t_now_town_year p1 p2 v4 v5 v6
  | .inr (.inl (v4, v5, v6, v7, v8, k0)) => bd_X11_goesBetween_1 t_now_book_size t_now_book_deal t_now_book_foundNothing t_now_book_way t_now_town_deals t_now_town_lawYears t_now_town_borrower t_now_town_either t_now_town_lender t_now_town_year p1 p2 v4 v5 v6 v7 v8 k0
  | .inr (.inr (.inl (v4, v5, v6, v7, v8, v9))) => bd_X11_goesBetween_2 t_now_book_size t_now_book_deal t_now_book_foundNothing t_now_book_way t_now_town_deals t_now_town_lawYears t_now_town_borrower t_now_town_either t_now_town_lender t_now_town_year p1 p2 v4 v5 v6 v7 v8 v9
  | .inr (.inr (.inr (.inl (v4, v5, v6, v7, v8, v9)))) => bd_X11_goesBetween_3 t_now_book_size t_now_book_deal t_now_book_foundNothing t_now_book_way t_now_town_deals t_now_town_lawYears t_now_town_borrower t_now_town_either t_now_town_lender t_now_town_year p1 p2 v4 v5 v6 v7 v8 v9
  | .inr (.inr (.inr (.inr ((v4, v5, v6, v7, v8))))) => bd_X11_goesBetween_4 t_now_book_size t_now_book_deal t_now_book_foundNothing t_now_book_way t_now_town_deals t_now_town_lawYears t_now_town_borrower t_now_town_either t_now_town_lender t_now_town_year p1 p2 v4 v5 v6 v7 v8
noncomputable def gn_X11_goesBetween_0 (t_now_book_size : Int32) (t_now_book_deal : Nat → Int32) (t_now_book_foundNothing : Nat → Int32) (t_now_book_way : Nat → Int32) (t_now_town_deals : Int32) (t_now_town_lawYears : Int32) (t_now_town_borrower : Nat → Int32) (t_now_town_either : Nat → Int32) (t_now_town_lender : Nat → Int32) (t_now_town_year : Nat → Int32) (p1 : Int32) (p2 : Int32) (v4 : Int32) (v5 : Int32) (v6 : Int32) : Option (Bool) := lpC (st_X11_goesBetween t_now_book_size t_now_book_deal t_now_book_foundNothing t_now_book_way t_now_town_deals t_now_town_lawYears t_now_town_borrower t_now_town_either t_now_town_lender t_now_town_year p1 p2) (.inl (v4, v5, v6))
noncomputable def gn_X11_goesBetween_1 (t_now_book_size : Int32) (t_now_book_deal : Nat → Int32) (t_now_book_foundNothing : Nat → Int32) (t_now_book_way : Nat → Int32) (t_now_town_deals : Int32) (t_now_town_lawYears : Int32) (t_now_town_borrower : Nat → Int32) (t_now_town_either : Nat → Int32) (t_now_town_lender : Nat → Int32) (t_now_town_year : Nat → Int32) (p1 : Int32) (p2 : Int32) (v4 : Int32) (v5 : Int32) (v6 : Int32) (v7 : Int32) (v8 : Int32) (k0 : Int32) : Option (Bool) := lpC (st_X11_goesBetween t_now_book_size t_now_book_deal t_now_book_foundNothing t_now_book_way t_now_town_deals t_now_town_lawYears t_now_town_borrower t_now_town_either t_now_town_lender t_now_town_year p1 p2) (.inr (.inl (v4, v5, v6, v7, v8, k0)))
noncomputable def gn_X11_goesBetween_2 (t_now_book_size : Int32) (t_now_book_deal : Nat → Int32) (t_now_book_foundNothing : Nat → Int32) (t_now_book_way : Nat → Int32) (t_now_town_deals : Int32) (t_now_town_lawYears : Int32) (t_now_town_borrower : Nat → Int32) (t_now_town_either : Nat → Int32) (t_now_town_lender : Nat → Int32) (t_now_town_year : Nat → Int32) (p1 : Int32) (p2 : Int32) (v4 : Int32) (v5 : Int32) (v6 : Int32) (v7 : Int32) (v8 : Int32) (v9 : Int32) : Option (Bool) := lpC (st_X11_goesBetween t_now_book_size t_now_book_deal t_now_book_foundNothing t_now_book_way t_now_town_deals t_now_town_lawYears t_now_town_borrower t_now_town_either t_now_town_lender t_now_town_year p1 p2) (.inr (.inr (.inl (v4, v5, v6, v7, v8, v9))))
noncomputable def gn_X11_goesBetween_3 (t_now_book_size : Int32) (t_now_book_deal : Nat → Int32) (t_now_book_foundNothing : Nat → Int32) (t_now_book_way : Nat → Int32) (t_now_town_deals : Int32) (t_now_town_lawYears : Int32) (t_now_town_borrower : Nat → Int32) (t_now_town_either : Nat → Int32) (t_now_town_lender : Nat → Int32) (t_now_town_year : Nat → Int32) (p1 : Int32) (p2 : Int32) (v4 : Int32) (v5 : Int32) (v6 : Int32) (v7 : Int32) (v8 : Int32) (v9 : Int32) : Option (Bool) := lpC (st_X11_goesBetween t_now_book_size t_now_book_deal t_now_book_foundNothing t_now_book_way t_now_town_deals t_now_town_lawYears t_now_town_borrower t_now_town_either t_now_town_lender t_now_town_year p1 p2) (.inr (.inr (.inr (.inl (v4, v5, v6, v7, v8, v9)))))
noncomputable def gn_X11_goesBetween_4 (t_now_book_size : Int32) (t_now_book_deal : Nat → Int32) (t_now_book_foundNothing : Nat → Int32) (t_now_book_way : Nat → Int32) (t_now_town_deals : Int32) (t_now_town_lawYears : Int32) (t_now_town_borrower : Nat → Int32) (t_now_town_either : Nat → Int32) (t_now_town_lender : Nat → Int32) (t_now_town_year : Nat → Int32) (p1 : Int32) (p2 : Int32) (v4 : Int32) (v5 : Int32) (v6 : Int32) (v7 : Int32) (v8 : Int32) : Option (Bool) := lpC (st_X11_goesBetween t_now_book_size t_now_book_deal t_now_book_foundNothing t_now_book_way t_now_town_deals t_now_town_lawYears t_now_town_borrower t_now_town_either t_now_town_lender t_now_town_year p1 p2) (.inr (.inr (.inr (.inr ((v4, v5, v6, v7, v8))))))
theorem gq_X11_goesBetween_0 (t_now_book_size : Int32) (t_now_book_deal : Nat → Int32) (t_now_book_foundNothing : Nat → Int32) (t_now_book_way : Nat → Int32) (t_now_town_deals : Int32) (t_now_town_lawYears : Int32) (t_now_town_borrower : Nat → Int32) (t_now_town_either : Nat → Int32) (t_now_town_lender : Nat → Int32) (t_now_town_year : Nat → Int32) (p1 : Int32) (p2 : Int32) (v4 : Int32) (v5 : Int32) (v6 : Int32) : gn_X11_goesBetween_0 t_now_book_size t_now_book_deal t_now_book_foundNothing t_now_book_way t_now_town_deals t_now_town_lawYears t_now_town_borrower t_now_town_either t_now_town_lender t_now_town_year p1 p2 v4 v5 v6 =
    if t_now_town_deals ≤ v6 then
      if v4 = 0 then
        some false
      else
        if v5 = 0 then
          some false
        else
          Option.bind (dn_J6_bitCount_0f7a4 (v4 ||| v5)) fun q10 =>
          if q10 ≤ 1 then
            some false
          else
            some true
    else
      if inb v6 30 = true then
      if (t_now_town_year (v6).toNatClampNeg) = p2 then
        Option.bind (dn_X10_isIn t_now_town_borrower t_now_town_lender v6 p1) fun q14 =>
        if q14 = true then
          Option.bind (dn_X0_wayDone t_now_book_size t_now_book_deal t_now_book_way v6) fun q16 =>
          if q16 = 0 then
            Option.bind (dn_X10_otherIn t_now_town_borrower t_now_town_lender v6 p1) fun q18 =>
            Option.bind (dn_X0_whatIs t_now_book_size t_now_book_deal t_now_book_foundNothing t_now_book_way t_now_town_lawYears t_now_town_borrower t_now_town_lender t_now_town_year q18 p2) fun q19 =>
            if inb v6 30 = true then
            if (t_now_town_either (v6).toNatClampNeg) = 1 then
              gn_X11_goesBetween_1 t_now_book_size t_now_book_deal t_now_book_foundNothing t_now_book_way t_now_town_deals t_now_town_lawYears t_now_town_borrower t_now_town_either t_now_town_lender t_now_town_year p1 p2 v4 v5 v6 q18 q19 1
            else
              gn_X11_goesBetween_1 t_now_book_size t_now_book_deal t_now_book_foundNothing t_now_book_way t_now_town_deals t_now_town_lawYears t_now_town_borrower t_now_town_either t_now_town_lender t_now_town_year p1 p2 v4 v5 v6 q18 q19 0
            else none
          else
            gn_X11_goesBetween_0 t_now_book_size t_now_book_deal t_now_book_foundNothing t_now_book_way t_now_town_deals t_now_town_lawYears t_now_town_borrower t_now_town_either t_now_town_lender t_now_town_year p1 p2 v4 v5 (v6 + 1)
        else
          gn_X11_goesBetween_0 t_now_book_size t_now_book_deal t_now_book_foundNothing t_now_book_way t_now_town_deals t_now_town_lawYears t_now_town_borrower t_now_town_either t_now_town_lender t_now_town_year p1 p2 v4 v5 (v6 + 1)
      else
        gn_X11_goesBetween_0 t_now_book_size t_now_book_deal t_now_book_foundNothing t_now_book_way t_now_town_deals t_now_town_lawYears t_now_town_borrower t_now_town_either t_now_town_lender t_now_town_year p1 p2 v4 v5 (v6 + 1)
      else none := by
  rw [gn_X11_goesBetween_0, lpC_eq]
  show lpO _ (bd_X11_goesBetween_0 t_now_book_size t_now_book_deal t_now_book_foundNothing t_now_book_way t_now_town_deals t_now_town_lawYears t_now_town_borrower t_now_town_either t_now_town_lender t_now_town_year p1 p2 v4 v5 v6) = _
  unfold bd_X11_goesBetween_0
  simp only [lpO_ite, lpO_bind, lpO_none, lpO_l, lpO_r]
  try rfl
theorem gq_X11_goesBetween_1 (t_now_book_size : Int32) (t_now_book_deal : Nat → Int32) (t_now_book_foundNothing : Nat → Int32) (t_now_book_way : Nat → Int32) (t_now_town_deals : Int32) (t_now_town_lawYears : Int32) (t_now_town_borrower : Nat → Int32) (t_now_town_either : Nat → Int32) (t_now_town_lender : Nat → Int32) (t_now_town_year : Nat → Int32) (p1 : Int32) (p2 : Int32) (v4 : Int32) (v5 : Int32) (v6 : Int32) (v7 : Int32) (v8 : Int32) (k0 : Int32) : gn_X11_goesBetween_1 t_now_book_size t_now_book_deal t_now_book_foundNothing t_now_book_way t_now_town_deals t_now_town_lawYears t_now_town_borrower t_now_town_either t_now_town_lender t_now_town_year p1 p2 v4 v5 v6 v7 v8 k0 =
    if inb v6 30 = true then
    if (t_now_town_borrower (v6).toNatClampNeg) = p1 then
      gn_X11_goesBetween_2 t_now_book_size t_now_book_deal t_now_book_foundNothing t_now_book_way t_now_town_deals t_now_town_lawYears t_now_town_borrower t_now_town_either t_now_town_lender t_now_town_year p1 p2 v4 v5 v6 v7 v8 k0
    else
      if k0 = 0 then
        gn_X11_goesBetween_3 t_now_book_size t_now_book_deal t_now_book_foundNothing t_now_book_way t_now_town_deals t_now_town_lawYears t_now_town_borrower t_now_town_either t_now_town_lender t_now_town_year p1 p2 v4 v5 v6 v7 v8 k0
      else
        gn_X11_goesBetween_2 t_now_book_size t_now_book_deal t_now_book_foundNothing t_now_book_way t_now_town_deals t_now_town_lawYears t_now_town_borrower t_now_town_either t_now_town_lender t_now_town_year p1 p2 v4 v5 v6 v7 v8 k0
    else none := by
  rw [gn_X11_goesBetween_1, lpC_eq]
  show lpO _ (bd_X11_goesBetween_1 t_now_book_size t_now_book_deal t_now_book_foundNothing t_now_book_way t_now_town_deals t_now_town_lawYears t_now_town_borrower t_now_town_either t_now_town_lender t_now_town_year p1 p2 v4 v5 v6 v7 v8 k0) = _
  unfold bd_X11_goesBetween_1
  simp only [lpO_ite, lpO_bind, lpO_none, lpO_l, lpO_r]
  try rfl
theorem gq_X11_goesBetween_2 (t_now_book_size : Int32) (t_now_book_deal : Nat → Int32) (t_now_book_foundNothing : Nat → Int32) (t_now_book_way : Nat → Int32) (t_now_town_deals : Int32) (t_now_town_lawYears : Int32) (t_now_town_borrower : Nat → Int32) (t_now_town_either : Nat → Int32) (t_now_town_lender : Nat → Int32) (t_now_town_year : Nat → Int32) (p1 : Int32) (p2 : Int32) (v4 : Int32) (v5 : Int32) (v6 : Int32) (v7 : Int32) (v8 : Int32) (v9 : Int32) : gn_X11_goesBetween_2 t_now_book_size t_now_book_deal t_now_book_foundNothing t_now_book_way t_now_town_deals t_now_town_lawYears t_now_town_borrower t_now_town_either t_now_town_lender t_now_town_year p1 p2 v4 v5 v6 v7 v8 v9 =
    if v8 = 2 then
      gn_X11_goesBetween_3 t_now_book_size t_now_book_deal t_now_book_foundNothing t_now_book_way t_now_town_deals t_now_town_lawYears t_now_town_borrower t_now_town_either t_now_town_lender t_now_town_year p1 p2 v4 v5 v6 v7 v8 v9
    else
      gn_X11_goesBetween_3 t_now_book_size t_now_book_deal t_now_book_foundNothing t_now_book_way t_now_town_deals t_now_town_lawYears t_now_town_borrower t_now_town_either t_now_town_lender t_now_town_year p1 p2 (v4 ||| ((1 : Int32) <<< (v7 &&& 31))) v5 v6 v7 v8 v9 := by
  rw [gn_X11_goesBetween_2, lpC_eq]
  show lpO _ (bd_X11_goesBetween_2 t_now_book_size t_now_book_deal t_now_book_foundNothing t_now_book_way t_now_town_deals t_now_town_lawYears t_now_town_borrower t_now_town_either t_now_town_lender t_now_town_year p1 p2 v4 v5 v6 v7 v8 v9) = _
  unfold bd_X11_goesBetween_2
  simp only [lpO_ite, lpO_bind, lpO_none, lpO_l, lpO_r]
  try rfl
theorem gq_X11_goesBetween_3 (t_now_book_size : Int32) (t_now_book_deal : Nat → Int32) (t_now_book_foundNothing : Nat → Int32) (t_now_book_way : Nat → Int32) (t_now_town_deals : Int32) (t_now_town_lawYears : Int32) (t_now_town_borrower : Nat → Int32) (t_now_town_either : Nat → Int32) (t_now_town_lender : Nat → Int32) (t_now_town_year : Nat → Int32) (p1 : Int32) (p2 : Int32) (v4 : Int32) (v5 : Int32) (v6 : Int32) (v7 : Int32) (v8 : Int32) (v9 : Int32) : gn_X11_goesBetween_3 t_now_book_size t_now_book_deal t_now_book_foundNothing t_now_book_way t_now_town_deals t_now_town_lawYears t_now_town_borrower t_now_town_either t_now_town_lender t_now_town_year p1 p2 v4 v5 v6 v7 v8 v9 =
    if inb v6 30 = true then
    if (t_now_town_lender (v6).toNatClampNeg) = p1 then
      gn_X11_goesBetween_4 t_now_book_size t_now_book_deal t_now_book_foundNothing t_now_book_way t_now_town_deals t_now_town_lawYears t_now_town_borrower t_now_town_either t_now_town_lender t_now_town_year p1 p2 v4 v5 v6 v7 v8
    else
      if v9 = 0 then
        gn_X11_goesBetween_0 t_now_book_size t_now_book_deal t_now_book_foundNothing t_now_book_way t_now_town_deals t_now_town_lawYears t_now_town_borrower t_now_town_either t_now_town_lender t_now_town_year p1 p2 v4 v5 (v6 + 1)
      else
        gn_X11_goesBetween_4 t_now_book_size t_now_book_deal t_now_book_foundNothing t_now_book_way t_now_town_deals t_now_town_lawYears t_now_town_borrower t_now_town_either t_now_town_lender t_now_town_year p1 p2 v4 v5 v6 v7 v8
    else none := by
  rw [gn_X11_goesBetween_3, lpC_eq]
  show lpO _ (bd_X11_goesBetween_3 t_now_book_size t_now_book_deal t_now_book_foundNothing t_now_book_way t_now_town_deals t_now_town_lawYears t_now_town_borrower t_now_town_either t_now_town_lender t_now_town_year p1 p2 v4 v5 v6 v7 v8 v9) = _
  unfold bd_X11_goesBetween_3
  simp only [lpO_ite, lpO_bind, lpO_none, lpO_l, lpO_r]
  try rfl
theorem gq_X11_goesBetween_4 (t_now_book_size : Int32) (t_now_book_deal : Nat → Int32) (t_now_book_foundNothing : Nat → Int32) (t_now_book_way : Nat → Int32) (t_now_town_deals : Int32) (t_now_town_lawYears : Int32) (t_now_town_borrower : Nat → Int32) (t_now_town_either : Nat → Int32) (t_now_town_lender : Nat → Int32) (t_now_town_year : Nat → Int32) (p1 : Int32) (p2 : Int32) (v4 : Int32) (v5 : Int32) (v6 : Int32) (v7 : Int32) (v8 : Int32) : gn_X11_goesBetween_4 t_now_book_size t_now_book_deal t_now_book_foundNothing t_now_book_way t_now_town_deals t_now_town_lawYears t_now_town_borrower t_now_town_either t_now_town_lender t_now_town_year p1 p2 v4 v5 v6 v7 v8 =
    if v8 = 1 then
      gn_X11_goesBetween_0 t_now_book_size t_now_book_deal t_now_book_foundNothing t_now_book_way t_now_town_deals t_now_town_lawYears t_now_town_borrower t_now_town_either t_now_town_lender t_now_town_year p1 p2 v4 v5 (v6 + 1)
    else
      gn_X11_goesBetween_0 t_now_book_size t_now_book_deal t_now_book_foundNothing t_now_book_way t_now_town_deals t_now_town_lawYears t_now_town_borrower t_now_town_either t_now_town_lender t_now_town_year p1 p2 v4 (v5 ||| ((1 : Int32) <<< (v7 &&& 31))) (v6 + 1) := by
  rw [gn_X11_goesBetween_4, lpC_eq]
  show lpO _ (bd_X11_goesBetween_4 t_now_book_size t_now_book_deal t_now_book_foundNothing t_now_book_way t_now_town_deals t_now_town_lawYears t_now_town_borrower t_now_town_either t_now_town_lender t_now_town_year p1 p2 v4 v5 v6 v7 v8) = _
  unfold bd_X11_goesBetween_4
  simp only [lpO_ite, lpO_bind, lpO_none, lpO_l, lpO_r]
  try rfl
noncomputable def dn_X11_goesBetween (t_now_book_size : Int32) (t_now_book_deal : Nat → Int32) (t_now_book_foundNothing : Nat → Int32) (t_now_book_way : Nat → Int32) (t_now_town_deals : Int32) (t_now_town_lawYears : Int32) (t_now_town_born : Nat → Int32) (t_now_town_borrower : Nat → Int32) (t_now_town_dies : Nat → Int32) (t_now_town_either : Nat → Int32) (t_now_town_lender : Nat → Int32) (t_now_town_year : Nat → Int32) (p1 : Int32) (p2 : Int32) : Option (Bool) :=
  if inb p1 10 = true then
  if p2 < (t_now_town_born (p1).toNatClampNeg) then
    some false
  else
    if inb p1 10 = true then
    if (t_now_town_dies (p1).toNatClampNeg) < p2 then
      some false
    else
      Option.bind (dn_X0_whatIs t_now_book_size t_now_book_deal t_now_book_foundNothing t_now_book_way t_now_town_lawYears t_now_town_borrower t_now_town_lender t_now_town_year p1 p2) fun q5 =>
      if q5 = 0 then
        gn_X11_goesBetween_0 t_now_book_size t_now_book_deal t_now_book_foundNothing t_now_book_way t_now_town_deals t_now_town_lawYears t_now_town_borrower t_now_town_either t_now_town_lender t_now_town_year p1 p2 0 0 0
      else
        some false
    else none
  else none
noncomputable def bd_X11_between_0 (t_now_book_size : Int32) (t_now_book_deal : Nat → Int32) (t_now_book_foundNothing : Nat → Int32) (t_now_book_way : Nat → Int32) (t_now_town_persons : Int32) (t_now_town_deals : Int32) (t_now_town_lawYears : Int32) (t_now_town_born : Nat → Int32) (t_now_town_borrower : Nat → Int32) (t_now_town_dies : Nat → Int32) (t_now_town_either : Nat → Int32) (t_now_town_lender : Nat → Int32) (t_now_town_year : Nat → Int32) (p1 : Int32) (v2 : Int32) (v3 : Int32) : Option (((Int32 × Int32)) ⊕ (Int32)) :=
  if t_now_town_persons ≤ v3 then
    some (.inr v2)
  else
    Option.bind (dn_X11_goesBetween t_now_book_size t_now_book_deal t_now_book_foundNothing t_now_book_way t_now_town_deals t_now_town_lawYears t_now_town_born t_now_town_borrower t_now_town_dies t_now_town_either t_now_town_lender t_now_town_year v3 p1) fun q4 =>
    if q4 = true then
      some (.inl (v2 ||| ((1 : Int32) <<< (v3 &&& 31)), v3 + 1))
    else
      some (.inl (v2, v3 + 1))
noncomputable def st_X11_between (t_now_book_size : Int32) (t_now_book_deal : Nat → Int32) (t_now_book_foundNothing : Nat → Int32) (t_now_book_way : Nat → Int32) (t_now_town_persons : Int32) (t_now_town_deals : Int32) (t_now_town_lawYears : Int32) (t_now_town_born : Nat → Int32) (t_now_town_borrower : Nat → Int32) (t_now_town_dies : Nat → Int32) (t_now_town_either : Nat → Int32) (t_now_town_lender : Nat → Int32) (t_now_town_year : Nat → Int32) (p1 : Int32) : ((Int32 × Int32)) → Option (((Int32 × Int32)) ⊕ (Int32)) := fun s => match s with
  | (v2, v3) => bd_X11_between_0 t_now_book_size t_now_book_deal t_now_book_foundNothing t_now_book_way t_now_town_persons t_now_town_deals t_now_town_lawYears t_now_town_born t_now_town_borrower t_now_town_dies t_now_town_either t_now_town_lender t_now_town_year p1 v2 v3
noncomputable def gn_X11_between_0 (t_now_book_size : Int32) (t_now_book_deal : Nat → Int32) (t_now_book_foundNothing : Nat → Int32) (t_now_book_way : Nat → Int32) (t_now_town_persons : Int32) (t_now_town_deals : Int32) (t_now_town_lawYears : Int32) (t_now_town_born : Nat → Int32) (t_now_town_borrower : Nat → Int32) (t_now_town_dies : Nat → Int32) (t_now_town_either : Nat → Int32) (t_now_town_lender : Nat → Int32) (t_now_town_year : Nat → Int32) (p1 : Int32) (v2 : Int32) (v3 : Int32) : Option (Int32) := lpC (st_X11_between t_now_book_size t_now_book_deal t_now_book_foundNothing t_now_book_way t_now_town_persons t_now_town_deals t_now_town_lawYears t_now_town_born t_now_town_borrower t_now_town_dies t_now_town_either t_now_town_lender t_now_town_year p1) ((v2, v3))
theorem gq_X11_between_0 (t_now_book_size : Int32) (t_now_book_deal : Nat → Int32) (t_now_book_foundNothing : Nat → Int32) (t_now_book_way : Nat → Int32) (t_now_town_persons : Int32) (t_now_town_deals : Int32) (t_now_town_lawYears : Int32) (t_now_town_born : Nat → Int32) (t_now_town_borrower : Nat → Int32) (t_now_town_dies : Nat → Int32) (t_now_town_either : Nat → Int32) (t_now_town_lender : Nat → Int32) (t_now_town_year : Nat → Int32) (p1 : Int32) (v2 : Int32) (v3 : Int32) : gn_X11_between_0 t_now_book_size t_now_book_deal t_now_book_foundNothing t_now_book_way t_now_town_persons t_now_town_deals t_now_town_lawYears t_now_town_born t_now_town_borrower t_now_town_dies t_now_town_either t_now_town_lender t_now_town_year p1 v2 v3 =
    if t_now_town_persons ≤ v3 then
      some v2
    else
      Option.bind (dn_X11_goesBetween t_now_book_size t_now_book_deal t_now_book_foundNothing t_now_book_way t_now_town_deals t_now_town_lawYears t_now_town_born t_now_town_borrower t_now_town_dies t_now_town_either t_now_town_lender t_now_town_year v3 p1) fun q4 =>
      if q4 = true then
        gn_X11_between_0 t_now_book_size t_now_book_deal t_now_book_foundNothing t_now_book_way t_now_town_persons t_now_town_deals t_now_town_lawYears t_now_town_born t_now_town_borrower t_now_town_dies t_now_town_either t_now_town_lender t_now_town_year p1 (v2 ||| ((1 : Int32) <<< (v3 &&& 31))) (v3 + 1)
      else
        gn_X11_between_0 t_now_book_size t_now_book_deal t_now_book_foundNothing t_now_book_way t_now_town_persons t_now_town_deals t_now_town_lawYears t_now_town_born t_now_town_borrower t_now_town_dies t_now_town_either t_now_town_lender t_now_town_year p1 v2 (v3 + 1) := by
  rw [gn_X11_between_0, lpC_eq]
  show lpO _ (bd_X11_between_0 t_now_book_size t_now_book_deal t_now_book_foundNothing t_now_book_way t_now_town_persons t_now_town_deals t_now_town_lawYears t_now_town_born t_now_town_borrower t_now_town_dies t_now_town_either t_now_town_lender t_now_town_year p1 v2 v3) = _
  unfold bd_X11_between_0
  simp only [lpO_ite, lpO_bind, lpO_none, lpO_l, lpO_r]
  try rfl
noncomputable def dn_X11_between (t_now_book_size : Int32) (t_now_book_deal : Nat → Int32) (t_now_book_foundNothing : Nat → Int32) (t_now_book_way : Nat → Int32) (t_now_town_persons : Int32) (t_now_town_deals : Int32) (t_now_town_lawYears : Int32) (t_now_town_born : Nat → Int32) (t_now_town_borrower : Nat → Int32) (t_now_town_dies : Nat → Int32) (t_now_town_either : Nat → Int32) (t_now_town_lender : Nat → Int32) (t_now_town_year : Nat → Int32) (p1 : Int32) : Option (Int32) :=
  Option.bind (dn_X11_isYear p1) fun q1 =>
  if q1 = true then
    gn_X11_between_0 t_now_book_size t_now_book_deal t_now_book_foundNothing t_now_book_way t_now_town_persons t_now_town_deals t_now_town_lawYears t_now_town_born t_now_town_borrower t_now_town_dies t_now_town_either t_now_town_lender t_now_town_year p1 0 0
  else
    some (-1)
noncomputable def bd_X11_run_0 (t_now_town_deals : Int32) (t_now_town_lawYears : Int32) (t_now_town_borrower : Nat → Int32) (t_now_town_byYear : Nat → Int32) (t_now_town_either : Nat → Int32) (t_now_town_lender : Nat → Int32) (t_now_town_limit : Nat → Int32) (t_now_town_year : Nat → Int32) (v3 : Int32) (v4 : Int32) (t_now_book_size : Int32) (t_refusals : Int32) (t_now_book_deal : Nat → Int32) (t_now_book_way : Nat → Int32) (t_now_book_foundNothing : Nat → Int32) : Option (((Int32 × Int32 × Int32 × Int32 × (Nat → Int32) × (Nat → Int32) × (Nat → Int32)) ⊕ ((Int32 × Int32 × Int32 × Int32 × Int32 × Int32 × Int32 × (Nat → Int32) × (Nat → Int32) × (Nat → Int32)))) ⊕ (Int32 × Int32 × Int32 × (Nat → Int32) × (Nat → Int32) × (Nat → Int32))) :=
  if t_now_town_deals ≤ v4 then
    some (.inr (t_now_book_size, t_now_book_size, t_refusals, t_now_book_deal, t_now_book_way, t_now_book_foundNothing))
  else
    if inb v4 30 = true then
    if (((((v3 * 1103515245) + 12345).toUInt32 >>> ((8 : Int32).toUInt32 &&& Int32.toUInt32 31)).toInt32) - ((((v3 * 1103515245) + 12345).toUInt32 >>> ((8 : Int32).toUInt32 &&& Int32.toUInt32 31)).toInt32) / 4 * 4) = 1 then
      if inb (t_now_town_byYear (v4).toNatClampNeg) 30 = true then
      if (t_now_town_either ((t_now_town_byYear (v4).toNatClampNeg)).toNatClampNeg) = 1 then
        some (.inl (.inr (((v3 * 1103515245) + 12345, v4, t_now_town_byYear (v4).toNatClampNeg, ((((v3 * 1103515245) + 12345).toUInt32 >>> ((8 : Int32).toUInt32 &&& Int32.toUInt32 31)).toInt32) - ((((v3 * 1103515245) + 12345).toUInt32 >>> ((8 : Int32).toUInt32 &&& Int32.toUInt32 31)).toInt32) / 4 * 4, 2, t_now_book_size, t_refusals, t_now_book_deal, t_now_book_way, t_now_book_foundNothing))))
      else
        some (.inl (.inr (((v3 * 1103515245) + 12345, v4, t_now_town_byYear (v4).toNatClampNeg, ((((v3 * 1103515245) + 12345).toUInt32 >>> ((8 : Int32).toUInt32 &&& Int32.toUInt32 31)).toInt32) - ((((v3 * 1103515245) + 12345).toUInt32 >>> ((8 : Int32).toUInt32 &&& Int32.toUInt32 31)).toInt32) / 4 * 4, 1, t_now_book_size, t_refusals, t_now_book_deal, t_now_book_way, t_now_book_foundNothing))))
      else none
    else
      some (.inl (.inr (((v3 * 1103515245) + 12345, v4, t_now_town_byYear (v4).toNatClampNeg, ((((v3 * 1103515245) + 12345).toUInt32 >>> ((8 : Int32).toUInt32 &&& Int32.toUInt32 31)).toInt32) - ((((v3 * 1103515245) + 12345).toUInt32 >>> ((8 : Int32).toUInt32 &&& Int32.toUInt32 31)).toInt32) / 4 * 4, 1, t_now_book_size, t_refusals, t_now_book_deal, t_now_book_way, t_now_book_foundNothing))))
    else none
noncomputable def bd_X11_run_1 (t_now_town_deals : Int32) (t_now_town_lawYears : Int32) (t_now_town_borrower : Nat → Int32) (t_now_town_byYear : Nat → Int32) (t_now_town_either : Nat → Int32) (t_now_town_lender : Nat → Int32) (t_now_town_limit : Nat → Int32) (t_now_town_year : Nat → Int32) (v3 : Int32) (v4 : Int32) (v5 : Int32) (v6 : Int32) (k0 : Int32) (t_now_book_size : Int32) (t_refusals : Int32) (t_now_book_deal : Nat → Int32) (t_now_book_way : Nat → Int32) (t_now_book_foundNothing : Nat → Int32) : Option (((Int32 × Int32 × Int32 × Int32 × (Nat → Int32) × (Nat → Int32) × (Nat → Int32)) ⊕ ((Int32 × Int32 × Int32 × Int32 × Int32 × Int32 × Int32 × (Nat → Int32) × (Nat → Int32) × (Nat → Int32)))) ⊕ (Int32 × Int32 × Int32 × (Nat → Int32) × (Nat → Int32) × (Nat → Int32))) :=
  if v6 = 0 then
    some (.inl (.inl (v3, v4 + 1, t_now_book_size, t_refusals, t_now_book_deal, t_now_book_way, t_now_book_foundNothing)))
  else
    Option.bind (dn_X0_tryDeal t_now_book_size t_now_book_deal t_now_book_foundNothing t_now_book_way t_now_town_lawYears t_now_town_borrower t_now_town_either t_now_town_lender t_now_town_limit t_now_town_year v5 k0) fun q9 =>
    if q9.1 = 0 then
      some (.inl (.inl (v3, v4 + 1, q9.2.2.2.2, t_refusals, q9.2.1, q9.2.2.1, q9.2.2.2.1)))
    else
      some (.inl (.inl (v3, v4 + 1, q9.2.2.2.2, t_refusals + 1, q9.2.1, q9.2.2.1, q9.2.2.2.1)))
noncomputable def st_X11_run (t_now_town_deals : Int32) (t_now_town_lawYears : Int32) (t_now_town_borrower : Nat → Int32) (t_now_town_byYear : Nat → Int32) (t_now_town_either : Nat → Int32) (t_now_town_lender : Nat → Int32) (t_now_town_limit : Nat → Int32) (t_now_town_year : Nat → Int32) : ((Int32 × Int32 × Int32 × Int32 × (Nat → Int32) × (Nat → Int32) × (Nat → Int32)) ⊕ ((Int32 × Int32 × Int32 × Int32 × Int32 × Int32 × Int32 × (Nat → Int32) × (Nat → Int32) × (Nat → Int32)))) → Option (((Int32 × Int32 × Int32 × Int32 × (Nat → Int32) × (Nat → Int32) × (Nat → Int32)) ⊕ ((Int32 × Int32 × Int32 × Int32 × Int32 × Int32 × Int32 × (Nat → Int32) × (Nat → Int32) × (Nat → Int32)))) ⊕ (Int32 × Int32 × Int32 × (Nat → Int32) × (Nat → Int32) × (Nat → Int32))) := fun s => match s with
  | .inl (v3, v4, t_now_book_size, t_refusals, t_now_book_deal, t_now_book_way, t_now_book_foundNothing) => bd_X11_run_0 t_now_town_deals t_now_town_lawYears t_now_town_borrower t_now_town_byYear t_now_town_either t_now_town_lender t_now_town_limit t_now_town_year v3 v4 t_now_book_size t_refusals t_now_book_deal t_now_book_way t_now_book_foundNothing
  | .inr ((v3, v4, v5, v6, k0, t_now_book_size, t_refusals, t_now_book_deal, t_now_book_way, t_now_book_foundNothing)) => bd_X11_run_1 t_now_town_deals t_now_town_lawYears t_now_town_borrower t_now_town_byYear t_now_town_either t_now_town_lender t_now_town_limit t_now_town_year v3 v4 v5 v6 k0 t_now_book_size t_refusals t_now_book_deal t_now_book_way t_now_book_foundNothing
noncomputable def gn_X11_run_0 (t_now_town_deals : Int32) (t_now_town_lawYears : Int32) (t_now_town_borrower : Nat → Int32) (t_now_town_byYear : Nat → Int32) (t_now_town_either : Nat → Int32) (t_now_town_lender : Nat → Int32) (t_now_town_limit : Nat → Int32) (t_now_town_year : Nat → Int32) (v3 : Int32) (v4 : Int32) (t_now_book_size : Int32) (t_refusals : Int32) (t_now_book_deal : Nat → Int32) (t_now_book_way : Nat → Int32) (t_now_book_foundNothing : Nat → Int32) : Option (Int32 × Int32 × Int32 × (Nat → Int32) × (Nat → Int32) × (Nat → Int32)) := lpC (st_X11_run t_now_town_deals t_now_town_lawYears t_now_town_borrower t_now_town_byYear t_now_town_either t_now_town_lender t_now_town_limit t_now_town_year) (.inl (v3, v4, t_now_book_size, t_refusals, t_now_book_deal, t_now_book_way, t_now_book_foundNothing))
noncomputable def gn_X11_run_1 (t_now_town_deals : Int32) (t_now_town_lawYears : Int32) (t_now_town_borrower : Nat → Int32) (t_now_town_byYear : Nat → Int32) (t_now_town_either : Nat → Int32) (t_now_town_lender : Nat → Int32) (t_now_town_limit : Nat → Int32) (t_now_town_year : Nat → Int32) (v3 : Int32) (v4 : Int32) (v5 : Int32) (v6 : Int32) (k0 : Int32) (t_now_book_size : Int32) (t_refusals : Int32) (t_now_book_deal : Nat → Int32) (t_now_book_way : Nat → Int32) (t_now_book_foundNothing : Nat → Int32) : Option (Int32 × Int32 × Int32 × (Nat → Int32) × (Nat → Int32) × (Nat → Int32)) := lpC (st_X11_run t_now_town_deals t_now_town_lawYears t_now_town_borrower t_now_town_byYear t_now_town_either t_now_town_lender t_now_town_limit t_now_town_year) (.inr ((v3, v4, v5, v6, k0, t_now_book_size, t_refusals, t_now_book_deal, t_now_book_way, t_now_book_foundNothing)))
theorem gq_X11_run_0 (t_now_town_deals : Int32) (t_now_town_lawYears : Int32) (t_now_town_borrower : Nat → Int32) (t_now_town_byYear : Nat → Int32) (t_now_town_either : Nat → Int32) (t_now_town_lender : Nat → Int32) (t_now_town_limit : Nat → Int32) (t_now_town_year : Nat → Int32) (v3 : Int32) (v4 : Int32) (t_now_book_size : Int32) (t_refusals : Int32) (t_now_book_deal : Nat → Int32) (t_now_book_way : Nat → Int32) (t_now_book_foundNothing : Nat → Int32) : gn_X11_run_0 t_now_town_deals t_now_town_lawYears t_now_town_borrower t_now_town_byYear t_now_town_either t_now_town_lender t_now_town_limit t_now_town_year v3 v4 t_now_book_size t_refusals t_now_book_deal t_now_book_way t_now_book_foundNothing =
    if t_now_town_deals ≤ v4 then
      some (t_now_book_size, t_now_book_size, t_refusals, t_now_book_deal, t_now_book_way, t_now_book_foundNothing)
    else
      if inb v4 30 = true then
      if (((((v3 * 1103515245) + 12345).toUInt32 >>> ((8 : Int32).toUInt32 &&& Int32.toUInt32 31)).toInt32) - ((((v3 * 1103515245) + 12345).toUInt32 >>> ((8 : Int32).toUInt32 &&& Int32.toUInt32 31)).toInt32) / 4 * 4) = 1 then
        if inb (t_now_town_byYear (v4).toNatClampNeg) 30 = true then
        if (t_now_town_either ((t_now_town_byYear (v4).toNatClampNeg)).toNatClampNeg) = 1 then
          gn_X11_run_1 t_now_town_deals t_now_town_lawYears t_now_town_borrower t_now_town_byYear t_now_town_either t_now_town_lender t_now_town_limit t_now_town_year ((v3 * 1103515245) + 12345) v4 (t_now_town_byYear (v4).toNatClampNeg) (((((v3 * 1103515245) + 12345).toUInt32 >>> ((8 : Int32).toUInt32 &&& Int32.toUInt32 31)).toInt32) - ((((v3 * 1103515245) + 12345).toUInt32 >>> ((8 : Int32).toUInt32 &&& Int32.toUInt32 31)).toInt32) / 4 * 4) 2 t_now_book_size t_refusals t_now_book_deal t_now_book_way t_now_book_foundNothing
        else
          gn_X11_run_1 t_now_town_deals t_now_town_lawYears t_now_town_borrower t_now_town_byYear t_now_town_either t_now_town_lender t_now_town_limit t_now_town_year ((v3 * 1103515245) + 12345) v4 (t_now_town_byYear (v4).toNatClampNeg) (((((v3 * 1103515245) + 12345).toUInt32 >>> ((8 : Int32).toUInt32 &&& Int32.toUInt32 31)).toInt32) - ((((v3 * 1103515245) + 12345).toUInt32 >>> ((8 : Int32).toUInt32 &&& Int32.toUInt32 31)).toInt32) / 4 * 4) 1 t_now_book_size t_refusals t_now_book_deal t_now_book_way t_now_book_foundNothing
        else none
      else
        gn_X11_run_1 t_now_town_deals t_now_town_lawYears t_now_town_borrower t_now_town_byYear t_now_town_either t_now_town_lender t_now_town_limit t_now_town_year ((v3 * 1103515245) + 12345) v4 (t_now_town_byYear (v4).toNatClampNeg) (((((v3 * 1103515245) + 12345).toUInt32 >>> ((8 : Int32).toUInt32 &&& Int32.toUInt32 31)).toInt32) - ((((v3 * 1103515245) + 12345).toUInt32 >>> ((8 : Int32).toUInt32 &&& Int32.toUInt32 31)).toInt32) / 4 * 4) 1 t_now_book_size t_refusals t_now_book_deal t_now_book_way t_now_book_foundNothing
      else none := by
  rw [gn_X11_run_0, lpC_eq]
  show lpO _ (bd_X11_run_0 t_now_town_deals t_now_town_lawYears t_now_town_borrower t_now_town_byYear t_now_town_either t_now_town_lender t_now_town_limit t_now_town_year v3 v4 t_now_book_size t_refusals t_now_book_deal t_now_book_way t_now_book_foundNothing) = _
  unfold bd_X11_run_0
  simp only [lpO_ite, lpO_bind, lpO_none, lpO_l, lpO_r]
  try rfl
theorem gq_X11_run_1 (t_now_town_deals : Int32) (t_now_town_lawYears : Int32) (t_now_town_borrower : Nat → Int32) (t_now_town_byYear : Nat → Int32) (t_now_town_either : Nat → Int32) (t_now_town_lender : Nat → Int32) (t_now_town_limit : Nat → Int32) (t_now_town_year : Nat → Int32) (v3 : Int32) (v4 : Int32) (v5 : Int32) (v6 : Int32) (k0 : Int32) (t_now_book_size : Int32) (t_refusals : Int32) (t_now_book_deal : Nat → Int32) (t_now_book_way : Nat → Int32) (t_now_book_foundNothing : Nat → Int32) : gn_X11_run_1 t_now_town_deals t_now_town_lawYears t_now_town_borrower t_now_town_byYear t_now_town_either t_now_town_lender t_now_town_limit t_now_town_year v3 v4 v5 v6 k0 t_now_book_size t_refusals t_now_book_deal t_now_book_way t_now_book_foundNothing =
    if v6 = 0 then
      gn_X11_run_0 t_now_town_deals t_now_town_lawYears t_now_town_borrower t_now_town_byYear t_now_town_either t_now_town_lender t_now_town_limit t_now_town_year v3 (v4 + 1) t_now_book_size t_refusals t_now_book_deal t_now_book_way t_now_book_foundNothing
    else
      Option.bind (dn_X0_tryDeal t_now_book_size t_now_book_deal t_now_book_foundNothing t_now_book_way t_now_town_lawYears t_now_town_borrower t_now_town_either t_now_town_lender t_now_town_limit t_now_town_year v5 k0) fun q9 =>
      if q9.1 = 0 then
        gn_X11_run_0 t_now_town_deals t_now_town_lawYears t_now_town_borrower t_now_town_byYear t_now_town_either t_now_town_lender t_now_town_limit t_now_town_year v3 (v4 + 1) q9.2.2.2.2 t_refusals q9.2.1 q9.2.2.1 q9.2.2.2.1
      else
        gn_X11_run_0 t_now_town_deals t_now_town_lawYears t_now_town_borrower t_now_town_byYear t_now_town_either t_now_town_lender t_now_town_limit t_now_town_year v3 (v4 + 1) q9.2.2.2.2 (t_refusals + 1) q9.2.1 q9.2.2.1 q9.2.2.2.1 := by
  rw [gn_X11_run_1, lpC_eq]
  show lpO _ (bd_X11_run_1 t_now_town_deals t_now_town_lawYears t_now_town_borrower t_now_town_byYear t_now_town_either t_now_town_lender t_now_town_limit t_now_town_year v3 v4 v5 v6 k0 t_now_book_size t_refusals t_now_book_deal t_now_book_way t_now_book_foundNothing) = _
  unfold bd_X11_run_1
  simp only [lpO_ite, lpO_bind, lpO_none, lpO_l, lpO_r]
  try rfl
noncomputable def dn_X11_run (t_refusals : Int32) (t_now_book_size : Int32) (t_now_book_deal : Nat → Int32) (t_now_book_foundNothing : Nat → Int32) (t_now_book_way : Nat → Int32) (t_now_town_deals : Int32) (t_now_town_lawYears : Int32) (t_now_town_borrower : Nat → Int32) (t_now_town_byYear : Nat → Int32) (t_now_town_either : Nat → Int32) (t_now_town_lender : Nat → Int32) (t_now_town_limit : Nat → Int32) (t_now_town_year : Nat → Int32) (p1 : Int32) : Option (Int32 × Int32 × Int32 × (Nat → Int32) × (Nat → Int32) × (Nat → Int32)) :=
  if t_now_town_deals = 0 then
    some ((-1), t_now_book_size, t_refusals, t_now_book_deal, t_now_book_way, t_now_book_foundNothing)
  else
    Option.bind (dn_X0_clear) fun q2 =>
    gn_X11_run_0 t_now_town_deals t_now_town_lawYears t_now_town_borrower t_now_town_byYear t_now_town_either t_now_town_lender t_now_town_limit t_now_town_year p1 0 q2 0 t_now_book_deal t_now_book_way t_now_book_foundNothing
noncomputable def dn_X11_refused (t_refusals : Int32) : Option (Int32) :=
  some t_refusals
noncomputable def dn_X11_count (t_now_book_size : Int32) (t_now_town_persons : Int32) (t_now_town_deals : Int32) (t_now_town_lawYears : Int32) (t_tape_size : Int32) (p1 : Int32) : Option (Int32) :=
  if p1 = 0 then
    some t_now_town_persons
  else
    if p1 = 1 then
      some t_now_town_deals
    else
      if p1 = 2 then
        some t_now_town_lawYears
      else
        if p1 = 3 then
          some t_now_book_size
        else
          if p1 = 4 then
            some t_tape_size
          else
            some (-1)
noncomputable def dn_X11_image (t_firstImage_kept : Int32) (t_firstImage_book_size : Int32) (t_firstImage_book_deal : Nat → Int32) (t_firstImage_book_foundNothing : Nat → Int32) (t_firstImage_book_way : Nat → Int32) (t_firstImage_town_persons : Int32) (t_firstImage_town_deals : Int32) (t_firstImage_town_lawYears : Int32) (t_firstImage_town_toldParts : Int32) (t_firstImage_town_born : Nat → Int32) (t_firstImage_town_borrower : Nat → Int32) (t_firstImage_town_borrowerGain : Nat → Int32) (t_firstImage_town_byYear : Nat → Int32) (t_firstImage_town_dealNames : Nat → Int64) (t_firstImage_town_dies : Nat → Int32) (t_firstImage_town_either : Nat → Int32) (t_firstImage_town_lender : Nat → Int32) (t_firstImage_town_lenderGain : Nat → Int32) (t_firstImage_town_limit : Nat → Int32) (t_firstImage_town_memo_restCount : Int32) (t_firstImage_town_memo_lawfulGain : Int32) (t_firstImage_town_memo_gains : Nat → Int32) (t_firstImage_town_memo_lawfulWays : Nat → Int32) (t_firstImage_town_memo_rests : Nat → Int32) (t_firstImage_town_personNames : Nat → Int64) (t_firstImage_town_year : Nat → Int32) (t_now_book_size : Int32) (t_now_book_deal : Nat → Int32) (t_now_book_foundNothing : Nat → Int32) (t_now_book_way : Nat → Int32) (t_now_town_persons : Int32) (t_now_town_deals : Int32) (t_now_town_lawYears : Int32) (t_now_town_toldParts : Int32) (t_now_town_born : Nat → Int32) (t_now_town_borrower : Nat → Int32) (t_now_town_borrowerGain : Nat → Int32) (t_now_town_byYear : Nat → Int32) (t_now_town_dealNames : Nat → Int64) (t_now_town_dies : Nat → Int32) (t_now_town_either : Nat → Int32) (t_now_town_lender : Nat → Int32) (t_now_town_lenderGain : Nat → Int32) (t_now_town_limit : Nat → Int32) (t_now_town_memo_restCount : Int32) (t_now_town_memo_lawfulGain : Int32) (t_now_town_memo_gains : Nat → Int32) (t_now_town_memo_lawfulWays : Nat → Int32) (t_now_town_memo_rests : Nat → Int32) (t_now_town_personNames : Nat → Int64) (t_now_town_year : Nat → Int32) (t_secondImage_kept : Int32) (t_secondImage_book_size : Int32) (t_secondImage_book_deal : Nat → Int32) (t_secondImage_book_foundNothing : Nat → Int32) (t_secondImage_book_way : Nat → Int32) (t_secondImage_town_persons : Int32) (t_secondImage_town_deals : Int32) (t_secondImage_town_lawYears : Int32) (t_secondImage_town_toldParts : Int32) (t_secondImage_town_born : Nat → Int32) (t_secondImage_town_borrower : Nat → Int32) (t_secondImage_town_borrowerGain : Nat → Int32) (t_secondImage_town_byYear : Nat → Int32) (t_secondImage_town_dealNames : Nat → Int64) (t_secondImage_town_dies : Nat → Int32) (t_secondImage_town_either : Nat → Int32) (t_secondImage_town_lender : Nat → Int32) (t_secondImage_town_lenderGain : Nat → Int32) (t_secondImage_town_limit : Nat → Int32) (t_secondImage_town_memo_restCount : Int32) (t_secondImage_town_memo_lawfulGain : Int32) (t_secondImage_town_memo_gains : Nat → Int32) (t_secondImage_town_memo_lawfulWays : Nat → Int32) (t_secondImage_town_memo_rests : Nat → Int32) (t_secondImage_town_personNames : Nat → Int64) (t_secondImage_town_year : Nat → Int32) (p1 : Int32) : Option (Bool × Int32 × Int32 × Int32 × Int32 × (Nat → Int64) × (Nat → Int32) × (Nat → Int32) × (Nat → Int32) × (Nat → Int64) × (Nat → Int32) × (Nat → Int32) × (Nat → Int32) × (Nat → Int32) × (Nat → Int32) × (Nat → Int32) × (Nat → Int32) × (Nat → Int32) × (Nat → Int32) × (Nat → Int32) × Int32 × Int32 × (Nat → Int32) × (Nat → Int32) × (Nat → Int32) × Int32 × Int32 × Int32 × Int32 × Int32 × Int32 × (Nat → Int64) × (Nat → Int32) × (Nat → Int32) × (Nat → Int32) × (Nat → Int64) × (Nat → Int32) × (Nat → Int32) × (Nat → Int32) × (Nat → Int32) × (Nat → Int32) × (Nat → Int32) × (Nat → Int32) × (Nat → Int32) × (Nat → Int32) × (Nat → Int32) × Int32 × Int32 × (Nat → Int32) × (Nat → Int32) × (Nat → Int32) × Int32 × Int32) :=
  if p1 = 0 then
    Option.bind (dn_X8_copyFrom t_firstImage_book_deal t_firstImage_book_foundNothing t_firstImage_book_way t_firstImage_town_born t_firstImage_town_borrower t_firstImage_town_borrowerGain t_firstImage_town_byYear t_firstImage_town_dealNames t_firstImage_town_dies t_firstImage_town_either t_firstImage_town_lender t_firstImage_town_lenderGain t_firstImage_town_limit t_firstImage_town_memo_gains t_firstImage_town_memo_lawfulWays t_firstImage_town_memo_rests t_firstImage_town_personNames t_firstImage_town_year t_now_book_size t_now_book_deal t_now_book_foundNothing t_now_book_way t_now_town_persons t_now_town_deals t_now_town_lawYears t_now_town_toldParts t_now_town_born t_now_town_borrower t_now_town_borrowerGain t_now_town_byYear t_now_town_dealNames t_now_town_dies t_now_town_either t_now_town_lender t_now_town_lenderGain t_now_town_limit t_now_town_memo_restCount t_now_town_memo_lawfulGain t_now_town_memo_gains t_now_town_memo_lawfulWays t_now_town_memo_rests t_now_town_personNames t_now_town_year) fun q3 =>
    some (true, q3.1, q3.2.1, q3.2.2.1, q3.2.2.2.1, q3.2.2.2.2.1, q3.2.2.2.2.2.1, q3.2.2.2.2.2.2.1, q3.2.2.2.2.2.2.2.1, q3.2.2.2.2.2.2.2.2.1, q3.2.2.2.2.2.2.2.2.2.1, q3.2.2.2.2.2.2.2.2.2.2.1, q3.2.2.2.2.2.2.2.2.2.2.2.1, q3.2.2.2.2.2.2.2.2.2.2.2.2.1, q3.2.2.2.2.2.2.2.2.2.2.2.2.2.1, q3.2.2.2.2.2.2.2.2.2.2.2.2.2.2.1, q3.2.2.2.2.2.2.2.2.2.2.2.2.2.2.2.1, q3.2.2.2.2.2.2.2.2.2.2.2.2.2.2.2.2.1, q3.2.2.2.2.2.2.2.2.2.2.2.2.2.2.2.2.2.1, q3.2.2.2.2.2.2.2.2.2.2.2.2.2.2.2.2.2.2.1, q3.2.2.2.2.2.2.2.2.2.2.2.2.2.2.2.2.2.2.2.1, q3.2.2.2.2.2.2.2.2.2.2.2.2.2.2.2.2.2.2.2.2.1, q3.2.2.2.2.2.2.2.2.2.2.2.2.2.2.2.2.2.2.2.2.2.1, q3.2.2.2.2.2.2.2.2.2.2.2.2.2.2.2.2.2.2.2.2.2.2.1, q3.2.2.2.2.2.2.2.2.2.2.2.2.2.2.2.2.2.2.2.2.2.2.2.1, q3.2.2.2.2.2.2.2.2.2.2.2.2.2.2.2.2.2.2.2.2.2.2.2.2, 1, t_secondImage_town_persons, t_secondImage_town_deals, t_secondImage_town_lawYears, t_secondImage_town_toldParts, t_secondImage_town_personNames, t_secondImage_town_born, t_secondImage_town_dies, t_secondImage_town_limit, t_secondImage_town_dealNames, t_secondImage_town_lender, t_secondImage_town_borrower, t_secondImage_town_year, t_secondImage_town_lenderGain, t_secondImage_town_borrowerGain, t_secondImage_town_either, t_secondImage_town_byYear, t_secondImage_town_memo_gains, t_secondImage_town_memo_rests, t_secondImage_town_memo_lawfulWays, t_secondImage_town_memo_restCount, t_secondImage_town_memo_lawfulGain, t_secondImage_book_deal, t_secondImage_book_way, t_secondImage_book_foundNothing, t_secondImage_book_size, t_secondImage_kept)
  else
    if p1 = 1 then
      Option.bind (dn_X8_copyFrom t_secondImage_book_deal t_secondImage_book_foundNothing t_secondImage_book_way t_secondImage_town_born t_secondImage_town_borrower t_secondImage_town_borrowerGain t_secondImage_town_byYear t_secondImage_town_dealNames t_secondImage_town_dies t_secondImage_town_either t_secondImage_town_lender t_secondImage_town_lenderGain t_secondImage_town_limit t_secondImage_town_memo_gains t_secondImage_town_memo_lawfulWays t_secondImage_town_memo_rests t_secondImage_town_personNames t_secondImage_town_year t_now_book_size t_now_book_deal t_now_book_foundNothing t_now_book_way t_now_town_persons t_now_town_deals t_now_town_lawYears t_now_town_toldParts t_now_town_born t_now_town_borrower t_now_town_borrowerGain t_now_town_byYear t_now_town_dealNames t_now_town_dies t_now_town_either t_now_town_lender t_now_town_lenderGain t_now_town_limit t_now_town_memo_restCount t_now_town_memo_lawfulGain t_now_town_memo_gains t_now_town_memo_lawfulWays t_now_town_memo_rests t_now_town_personNames t_now_town_year) fun q5 =>
      some (true, t_firstImage_town_persons, t_firstImage_town_deals, t_firstImage_town_lawYears, t_firstImage_town_toldParts, t_firstImage_town_personNames, t_firstImage_town_born, t_firstImage_town_dies, t_firstImage_town_limit, t_firstImage_town_dealNames, t_firstImage_town_lender, t_firstImage_town_borrower, t_firstImage_town_year, t_firstImage_town_lenderGain, t_firstImage_town_borrowerGain, t_firstImage_town_either, t_firstImage_town_byYear, t_firstImage_town_memo_gains, t_firstImage_town_memo_rests, t_firstImage_town_memo_lawfulWays, t_firstImage_town_memo_restCount, t_firstImage_town_memo_lawfulGain, t_firstImage_book_deal, t_firstImage_book_way, t_firstImage_book_foundNothing, t_firstImage_book_size, t_firstImage_kept, q5.1, q5.2.1, q5.2.2.1, q5.2.2.2.1, q5.2.2.2.2.1, q5.2.2.2.2.2.1, q5.2.2.2.2.2.2.1, q5.2.2.2.2.2.2.2.1, q5.2.2.2.2.2.2.2.2.1, q5.2.2.2.2.2.2.2.2.2.1, q5.2.2.2.2.2.2.2.2.2.2.1, q5.2.2.2.2.2.2.2.2.2.2.2.1, q5.2.2.2.2.2.2.2.2.2.2.2.2.1, q5.2.2.2.2.2.2.2.2.2.2.2.2.2.1, q5.2.2.2.2.2.2.2.2.2.2.2.2.2.2.1, q5.2.2.2.2.2.2.2.2.2.2.2.2.2.2.2.1, q5.2.2.2.2.2.2.2.2.2.2.2.2.2.2.2.2.1, q5.2.2.2.2.2.2.2.2.2.2.2.2.2.2.2.2.2.1, q5.2.2.2.2.2.2.2.2.2.2.2.2.2.2.2.2.2.2.1, q5.2.2.2.2.2.2.2.2.2.2.2.2.2.2.2.2.2.2.2.1, q5.2.2.2.2.2.2.2.2.2.2.2.2.2.2.2.2.2.2.2.2.1, q5.2.2.2.2.2.2.2.2.2.2.2.2.2.2.2.2.2.2.2.2.2.1, q5.2.2.2.2.2.2.2.2.2.2.2.2.2.2.2.2.2.2.2.2.2.2.1, q5.2.2.2.2.2.2.2.2.2.2.2.2.2.2.2.2.2.2.2.2.2.2.2.1, q5.2.2.2.2.2.2.2.2.2.2.2.2.2.2.2.2.2.2.2.2.2.2.2.2, 1)
    else
      some (false, t_firstImage_town_persons, t_firstImage_town_deals, t_firstImage_town_lawYears, t_firstImage_town_toldParts, t_firstImage_town_personNames, t_firstImage_town_born, t_firstImage_town_dies, t_firstImage_town_limit, t_firstImage_town_dealNames, t_firstImage_town_lender, t_firstImage_town_borrower, t_firstImage_town_year, t_firstImage_town_lenderGain, t_firstImage_town_borrowerGain, t_firstImage_town_either, t_firstImage_town_byYear, t_firstImage_town_memo_gains, t_firstImage_town_memo_rests, t_firstImage_town_memo_lawfulWays, t_firstImage_town_memo_restCount, t_firstImage_town_memo_lawfulGain, t_firstImage_book_deal, t_firstImage_book_way, t_firstImage_book_foundNothing, t_firstImage_book_size, t_firstImage_kept, t_secondImage_town_persons, t_secondImage_town_deals, t_secondImage_town_lawYears, t_secondImage_town_toldParts, t_secondImage_town_personNames, t_secondImage_town_born, t_secondImage_town_dies, t_secondImage_town_limit, t_secondImage_town_dealNames, t_secondImage_town_lender, t_secondImage_town_borrower, t_secondImage_town_year, t_secondImage_town_lenderGain, t_secondImage_town_borrowerGain, t_secondImage_town_either, t_secondImage_town_byYear, t_secondImage_town_memo_gains, t_secondImage_town_memo_rests, t_secondImage_town_memo_lawfulWays, t_secondImage_town_memo_restCount, t_secondImage_town_memo_lawfulGain, t_secondImage_book_deal, t_secondImage_book_way, t_secondImage_book_foundNothing, t_secondImage_book_size, t_secondImage_kept)
noncomputable def dn_X11_restore (t_firstImage_kept : Int32) (t_firstImage_book_size : Int32) (t_firstImage_book_deal : Nat → Int32) (t_firstImage_book_foundNothing : Nat → Int32) (t_firstImage_book_way : Nat → Int32) (t_firstImage_town_persons : Int32) (t_firstImage_town_deals : Int32) (t_firstImage_town_lawYears : Int32) (t_firstImage_town_toldParts : Int32) (t_firstImage_town_born : Nat → Int32) (t_firstImage_town_borrower : Nat → Int32) (t_firstImage_town_borrowerGain : Nat → Int32) (t_firstImage_town_byYear : Nat → Int32) (t_firstImage_town_dealNames : Nat → Int64) (t_firstImage_town_dies : Nat → Int32) (t_firstImage_town_either : Nat → Int32) (t_firstImage_town_lender : Nat → Int32) (t_firstImage_town_lenderGain : Nat → Int32) (t_firstImage_town_limit : Nat → Int32) (t_firstImage_town_memo_restCount : Int32) (t_firstImage_town_memo_lawfulGain : Int32) (t_firstImage_town_memo_gains : Nat → Int32) (t_firstImage_town_memo_lawfulWays : Nat → Int32) (t_firstImage_town_memo_rests : Nat → Int32) (t_firstImage_town_personNames : Nat → Int64) (t_firstImage_town_year : Nat → Int32) (t_now_book_size : Int32) (t_now_book_deal : Nat → Int32) (t_now_book_foundNothing : Nat → Int32) (t_now_book_way : Nat → Int32) (t_now_town_persons : Int32) (t_now_town_deals : Int32) (t_now_town_lawYears : Int32) (t_now_town_toldParts : Int32) (t_now_town_born : Nat → Int32) (t_now_town_borrower : Nat → Int32) (t_now_town_borrowerGain : Nat → Int32) (t_now_town_byYear : Nat → Int32) (t_now_town_dealNames : Nat → Int64) (t_now_town_dies : Nat → Int32) (t_now_town_either : Nat → Int32) (t_now_town_lender : Nat → Int32) (t_now_town_lenderGain : Nat → Int32) (t_now_town_limit : Nat → Int32) (t_now_town_memo_restCount : Int32) (t_now_town_memo_lawfulGain : Int32) (t_now_town_memo_gains : Nat → Int32) (t_now_town_memo_lawfulWays : Nat → Int32) (t_now_town_memo_rests : Nat → Int32) (t_now_town_personNames : Nat → Int64) (t_now_town_year : Nat → Int32) (t_secondImage_kept : Int32) (t_secondImage_book_size : Int32) (t_secondImage_book_deal : Nat → Int32) (t_secondImage_book_foundNothing : Nat → Int32) (t_secondImage_book_way : Nat → Int32) (t_secondImage_town_persons : Int32) (t_secondImage_town_deals : Int32) (t_secondImage_town_lawYears : Int32) (t_secondImage_town_toldParts : Int32) (t_secondImage_town_born : Nat → Int32) (t_secondImage_town_borrower : Nat → Int32) (t_secondImage_town_borrowerGain : Nat → Int32) (t_secondImage_town_byYear : Nat → Int32) (t_secondImage_town_dealNames : Nat → Int64) (t_secondImage_town_dies : Nat → Int32) (t_secondImage_town_either : Nat → Int32) (t_secondImage_town_lender : Nat → Int32) (t_secondImage_town_lenderGain : Nat → Int32) (t_secondImage_town_limit : Nat → Int32) (t_secondImage_town_memo_restCount : Int32) (t_secondImage_town_memo_lawfulGain : Int32) (t_secondImage_town_memo_gains : Nat → Int32) (t_secondImage_town_memo_lawfulWays : Nat → Int32) (t_secondImage_town_memo_rests : Nat → Int32) (t_secondImage_town_personNames : Nat → Int64) (t_secondImage_town_year : Nat → Int32) (p1 : Int32) : Option (Bool × Int32 × Int32 × Int32 × Int32 × (Nat → Int64) × (Nat → Int32) × (Nat → Int32) × (Nat → Int32) × (Nat → Int64) × (Nat → Int32) × (Nat → Int32) × (Nat → Int32) × (Nat → Int32) × (Nat → Int32) × (Nat → Int32) × (Nat → Int32) × (Nat → Int32) × (Nat → Int32) × (Nat → Int32) × Int32 × Int32 × (Nat → Int32) × (Nat → Int32) × (Nat → Int32) × Int32) :=
  if p1 = 0 then
    if t_firstImage_kept = 0 then
      some (false, t_now_town_persons, t_now_town_deals, t_now_town_lawYears, t_now_town_toldParts, t_now_town_personNames, t_now_town_born, t_now_town_dies, t_now_town_limit, t_now_town_dealNames, t_now_town_lender, t_now_town_borrower, t_now_town_year, t_now_town_lenderGain, t_now_town_borrowerGain, t_now_town_either, t_now_town_byYear, t_now_town_memo_gains, t_now_town_memo_rests, t_now_town_memo_lawfulWays, t_now_town_memo_restCount, t_now_town_memo_lawfulGain, t_now_book_deal, t_now_book_way, t_now_book_foundNothing, t_now_book_size)
    else
      Option.bind (dn_X8_copyFrom t_now_book_deal t_now_book_foundNothing t_now_book_way t_now_town_born t_now_town_borrower t_now_town_borrowerGain t_now_town_byYear t_now_town_dealNames t_now_town_dies t_now_town_either t_now_town_lender t_now_town_lenderGain t_now_town_limit t_now_town_memo_gains t_now_town_memo_lawfulWays t_now_town_memo_rests t_now_town_personNames t_now_town_year t_firstImage_book_size t_firstImage_book_deal t_firstImage_book_foundNothing t_firstImage_book_way t_firstImage_town_persons t_firstImage_town_deals t_firstImage_town_lawYears t_firstImage_town_toldParts t_firstImage_town_born t_firstImage_town_borrower t_firstImage_town_borrowerGain t_firstImage_town_byYear t_firstImage_town_dealNames t_firstImage_town_dies t_firstImage_town_either t_firstImage_town_lender t_firstImage_town_lenderGain t_firstImage_town_limit t_firstImage_town_memo_restCount t_firstImage_town_memo_lawfulGain t_firstImage_town_memo_gains t_firstImage_town_memo_lawfulWays t_firstImage_town_memo_rests t_firstImage_town_personNames t_firstImage_town_year) fun q4 =>
      some (true, q4.1, q4.2.1, q4.2.2.1, q4.2.2.2.1, q4.2.2.2.2.1, q4.2.2.2.2.2.1, q4.2.2.2.2.2.2.1, q4.2.2.2.2.2.2.2.1, q4.2.2.2.2.2.2.2.2.1, q4.2.2.2.2.2.2.2.2.2.1, q4.2.2.2.2.2.2.2.2.2.2.1, q4.2.2.2.2.2.2.2.2.2.2.2.1, q4.2.2.2.2.2.2.2.2.2.2.2.2.1, q4.2.2.2.2.2.2.2.2.2.2.2.2.2.1, q4.2.2.2.2.2.2.2.2.2.2.2.2.2.2.1, q4.2.2.2.2.2.2.2.2.2.2.2.2.2.2.2.1, q4.2.2.2.2.2.2.2.2.2.2.2.2.2.2.2.2.1, q4.2.2.2.2.2.2.2.2.2.2.2.2.2.2.2.2.2.1, q4.2.2.2.2.2.2.2.2.2.2.2.2.2.2.2.2.2.2.1, q4.2.2.2.2.2.2.2.2.2.2.2.2.2.2.2.2.2.2.2.1, q4.2.2.2.2.2.2.2.2.2.2.2.2.2.2.2.2.2.2.2.2.1, q4.2.2.2.2.2.2.2.2.2.2.2.2.2.2.2.2.2.2.2.2.2.1, q4.2.2.2.2.2.2.2.2.2.2.2.2.2.2.2.2.2.2.2.2.2.2.1, q4.2.2.2.2.2.2.2.2.2.2.2.2.2.2.2.2.2.2.2.2.2.2.2.1, q4.2.2.2.2.2.2.2.2.2.2.2.2.2.2.2.2.2.2.2.2.2.2.2.2)
  else
    if p1 = 1 then
      if t_secondImage_kept = 0 then
        some (false, t_now_town_persons, t_now_town_deals, t_now_town_lawYears, t_now_town_toldParts, t_now_town_personNames, t_now_town_born, t_now_town_dies, t_now_town_limit, t_now_town_dealNames, t_now_town_lender, t_now_town_borrower, t_now_town_year, t_now_town_lenderGain, t_now_town_borrowerGain, t_now_town_either, t_now_town_byYear, t_now_town_memo_gains, t_now_town_memo_rests, t_now_town_memo_lawfulWays, t_now_town_memo_restCount, t_now_town_memo_lawfulGain, t_now_book_deal, t_now_book_way, t_now_book_foundNothing, t_now_book_size)
      else
        Option.bind (dn_X8_copyFrom t_now_book_deal t_now_book_foundNothing t_now_book_way t_now_town_born t_now_town_borrower t_now_town_borrowerGain t_now_town_byYear t_now_town_dealNames t_now_town_dies t_now_town_either t_now_town_lender t_now_town_lenderGain t_now_town_limit t_now_town_memo_gains t_now_town_memo_lawfulWays t_now_town_memo_rests t_now_town_personNames t_now_town_year t_secondImage_book_size t_secondImage_book_deal t_secondImage_book_foundNothing t_secondImage_book_way t_secondImage_town_persons t_secondImage_town_deals t_secondImage_town_lawYears t_secondImage_town_toldParts t_secondImage_town_born t_secondImage_town_borrower t_secondImage_town_borrowerGain t_secondImage_town_byYear t_secondImage_town_dealNames t_secondImage_town_dies t_secondImage_town_either t_secondImage_town_lender t_secondImage_town_lenderGain t_secondImage_town_limit t_secondImage_town_memo_restCount t_secondImage_town_memo_lawfulGain t_secondImage_town_memo_gains t_secondImage_town_memo_lawfulWays t_secondImage_town_memo_rests t_secondImage_town_personNames t_secondImage_town_year) fun q7 =>
        some (true, q7.1, q7.2.1, q7.2.2.1, q7.2.2.2.1, q7.2.2.2.2.1, q7.2.2.2.2.2.1, q7.2.2.2.2.2.2.1, q7.2.2.2.2.2.2.2.1, q7.2.2.2.2.2.2.2.2.1, q7.2.2.2.2.2.2.2.2.2.1, q7.2.2.2.2.2.2.2.2.2.2.1, q7.2.2.2.2.2.2.2.2.2.2.2.1, q7.2.2.2.2.2.2.2.2.2.2.2.2.1, q7.2.2.2.2.2.2.2.2.2.2.2.2.2.1, q7.2.2.2.2.2.2.2.2.2.2.2.2.2.2.1, q7.2.2.2.2.2.2.2.2.2.2.2.2.2.2.2.1, q7.2.2.2.2.2.2.2.2.2.2.2.2.2.2.2.2.1, q7.2.2.2.2.2.2.2.2.2.2.2.2.2.2.2.2.2.1, q7.2.2.2.2.2.2.2.2.2.2.2.2.2.2.2.2.2.2.1, q7.2.2.2.2.2.2.2.2.2.2.2.2.2.2.2.2.2.2.2.1, q7.2.2.2.2.2.2.2.2.2.2.2.2.2.2.2.2.2.2.2.2.1, q7.2.2.2.2.2.2.2.2.2.2.2.2.2.2.2.2.2.2.2.2.2.1, q7.2.2.2.2.2.2.2.2.2.2.2.2.2.2.2.2.2.2.2.2.2.2.1, q7.2.2.2.2.2.2.2.2.2.2.2.2.2.2.2.2.2.2.2.2.2.2.2.1, q7.2.2.2.2.2.2.2.2.2.2.2.2.2.2.2.2.2.2.2.2.2.2.2.2)
    else
      some (false, t_now_town_persons, t_now_town_deals, t_now_town_lawYears, t_now_town_toldParts, t_now_town_personNames, t_now_town_born, t_now_town_dies, t_now_town_limit, t_now_town_dealNames, t_now_town_lender, t_now_town_borrower, t_now_town_year, t_now_town_lenderGain, t_now_town_borrowerGain, t_now_town_either, t_now_town_byYear, t_now_town_memo_gains, t_now_town_memo_rests, t_now_town_memo_lawfulWays, t_now_town_memo_restCount, t_now_town_memo_lawfulGain, t_now_book_deal, t_now_book_way, t_now_book_foundNothing, t_now_book_size)
noncomputable def dn_X11_town (t_now_book_size : Int32) (t_spare_born : Nat → Int32) (t_spare_borrower : Nat → Int32) (t_spare_borrowerGain : Nat → Int32) (t_spare_byYear : Nat → Int32) (t_spare_dealNames : Nat → Int64) (t_spare_dies : Nat → Int32) (t_spare_either : Nat → Int32) (t_spare_lender : Nat → Int32) (t_spare_lenderGain : Nat → Int32) (t_spare_limit : Nat → Int32) (t_spare_memo_gains : Nat → Int32) (t_spare_personNames : Nat → Int64) (t_spare_year : Nat → Int32) (t_tape_size : Int32) (t_tape_token : Int32) (t_tape_place : Int32) (t_tape_number : Int32) (t_tape_name : Int64) (t_tape_bytes : Nat → Int32) : Option (Int32 × Int32 × Int32 × Int32 × Int32 × (Nat → Int32) × Int32 × Int32 × Int32 × Int32 × Int32 × Int32 × Int32 × Int32 × Int32 × Int32 × Int32 × Int32 × Int64 × Int32 × (Nat → Int64) × (Nat → Int32) × (Nat → Int32) × (Nat → Int32) × (Nat → Int32) × (Nat → Int32) × (Nat → Int32) × (Nat → Int32) × (Nat → Int64) × (Nat → Int32) × (Nat → Int32) × (Nat → Int32) × Int32 × Int32 × Bool) :=
  Option.bind (dn_X6_readTown t_tape_size t_tape_token t_tape_place t_tape_number t_tape_name t_tape_bytes t_spare_born t_spare_borrower t_spare_borrowerGain t_spare_byYear t_spare_dealNames t_spare_dies t_spare_either t_spare_lender t_spare_lenderGain t_spare_limit t_spare_memo_gains t_spare_personNames t_spare_year) fun q1 =>
  Option.bind (dn_X9_cut 0) fun q2 =>
  if q1.1 = true then
    Option.bind (dn_X0_clear) fun q4 =>
    some (q1.2.2.2.2.2.2.2.2.2.2.2.2.2.1, q1.2.1, q1.2.2.1, q1.2.2.2.1, q1.2.2.2.2.1, q1.2.2.2.2.2.1, q1.2.2.2.2.2.2.1, q1.2.2.2.2.2.2.2.1, q1.2.2.2.2.2.2.2.2.1, q1.2.2.2.2.2.2.2.2.2.1, q1.2.2.2.2.2.2.2.2.2.2.1, q1.2.2.2.2.2.2.2.2.2.2.2.1, q1.2.2.2.2.2.2.2.2.2.2.2.2.1, q1.2.2.2.2.2.2.2.2.2.2.2.2.2.1, q1.2.2.2.2.2.2.2.2.2.2.2.2.2.2.1, q1.2.2.2.2.2.2.2.2.2.2.2.2.2.2.2.1, q1.2.2.2.2.2.2.2.2.2.2.2.2.2.2.2.2.1, q1.2.2.2.2.2.2.2.2.2.2.2.2.2.2.2.2.2.1, q1.2.2.2.2.2.2.2.2.2.2.2.2.2.2.2.2.2.2.1, q1.2.2.2.2.2.2.2.2.2.2.2.2.2.2.2.2.2.2.2.1, q1.2.2.2.2.2.2.2.2.2.2.2.2.2.2.2.2.2.2.2.2.1, q1.2.2.2.2.2.2.2.2.2.2.2.2.2.2.2.2.2.2.2.2.2.1, q1.2.2.2.2.2.2.2.2.2.2.2.2.2.2.2.2.2.2.2.2.2.2.1, q1.2.2.2.2.2.2.2.2.2.2.2.2.2.2.2.2.2.2.2.2.2.2.2.1, q1.2.2.2.2.2.2.2.2.2.2.2.2.2.2.2.2.2.2.2.2.2.2.2.2.1, q1.2.2.2.2.2.2.2.2.2.2.2.2.2.2.2.2.2.2.2.2.2.2.2.2.2.1, q1.2.2.2.2.2.2.2.2.2.2.2.2.2.2.2.2.2.2.2.2.2.2.2.2.2.2.1, q1.2.2.2.2.2.2.2.2.2.2.2.2.2.2.2.2.2.2.2.2.2.2.2.2.2.2.2.1, q1.2.2.2.2.2.2.2.2.2.2.2.2.2.2.2.2.2.2.2.2.2.2.2.2.2.2.2.2.1, q1.2.2.2.2.2.2.2.2.2.2.2.2.2.2.2.2.2.2.2.2.2.2.2.2.2.2.2.2.2.1, q1.2.2.2.2.2.2.2.2.2.2.2.2.2.2.2.2.2.2.2.2.2.2.2.2.2.2.2.2.2.2.1, q1.2.2.2.2.2.2.2.2.2.2.2.2.2.2.2.2.2.2.2.2.2.2.2.2.2.2.2.2.2.2.2, q2, q4, true)
  else
    some (((-1) : Int32) - q1.2.2.2.2.2.2.2.2.2.2.2.2.2.2.2.1, q1.2.1, q1.2.2.1, q1.2.2.2.1, q1.2.2.2.2.1, q1.2.2.2.2.2.1, q1.2.2.2.2.2.2.1, q1.2.2.2.2.2.2.2.1, q1.2.2.2.2.2.2.2.2.1, q1.2.2.2.2.2.2.2.2.2.1, q1.2.2.2.2.2.2.2.2.2.2.1, q1.2.2.2.2.2.2.2.2.2.2.2.1, q1.2.2.2.2.2.2.2.2.2.2.2.2.1, q1.2.2.2.2.2.2.2.2.2.2.2.2.2.1, q1.2.2.2.2.2.2.2.2.2.2.2.2.2.2.1, q1.2.2.2.2.2.2.2.2.2.2.2.2.2.2.2.1, q1.2.2.2.2.2.2.2.2.2.2.2.2.2.2.2.2.1, q1.2.2.2.2.2.2.2.2.2.2.2.2.2.2.2.2.2.1, q1.2.2.2.2.2.2.2.2.2.2.2.2.2.2.2.2.2.2.1, q1.2.2.2.2.2.2.2.2.2.2.2.2.2.2.2.2.2.2.2.1, q1.2.2.2.2.2.2.2.2.2.2.2.2.2.2.2.2.2.2.2.2.1, q1.2.2.2.2.2.2.2.2.2.2.2.2.2.2.2.2.2.2.2.2.2.1, q1.2.2.2.2.2.2.2.2.2.2.2.2.2.2.2.2.2.2.2.2.2.2.1, q1.2.2.2.2.2.2.2.2.2.2.2.2.2.2.2.2.2.2.2.2.2.2.2.1, q1.2.2.2.2.2.2.2.2.2.2.2.2.2.2.2.2.2.2.2.2.2.2.2.2.1, q1.2.2.2.2.2.2.2.2.2.2.2.2.2.2.2.2.2.2.2.2.2.2.2.2.2.1, q1.2.2.2.2.2.2.2.2.2.2.2.2.2.2.2.2.2.2.2.2.2.2.2.2.2.2.1, q1.2.2.2.2.2.2.2.2.2.2.2.2.2.2.2.2.2.2.2.2.2.2.2.2.2.2.2.1, q1.2.2.2.2.2.2.2.2.2.2.2.2.2.2.2.2.2.2.2.2.2.2.2.2.2.2.2.2.1, q1.2.2.2.2.2.2.2.2.2.2.2.2.2.2.2.2.2.2.2.2.2.2.2.2.2.2.2.2.2.1, q1.2.2.2.2.2.2.2.2.2.2.2.2.2.2.2.2.2.2.2.2.2.2.2.2.2.2.2.2.2.2.1, q1.2.2.2.2.2.2.2.2.2.2.2.2.2.2.2.2.2.2.2.2.2.2.2.2.2.2.2.2.2.2.2, q2, t_now_book_size, false)
