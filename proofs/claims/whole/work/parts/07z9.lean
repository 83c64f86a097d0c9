noncomputable def dn_X11_person (t_now_town_persons : Int32) (t_now_town_toldParts : Int32) (t_now_town_born : Nat → Int32) (t_now_town_dies : Nat → Int32) (t_now_town_limit : Nat → Int32) (p1 : Int32) (p2 : Int32) : Option (Option Int32) :=
  Option.bind (dn_X10_hasPerson t_now_town_persons p1) fun q1 =>
  if q1 = true then
    if p2 < 0 then
      some none
    else
      if p2 ≤ 3 then
        if p2 = 0 then
          if inb p1 10 = true then
          some (some (t_now_town_born (p1).toNatClampNeg))
          else none
        else
          if p2 = 1 then
            if inb p1 10 = true then
            some (some (t_now_town_dies (p1).toNatClampNeg))
            else none
          else
            if p2 = 2 then
              if inb p1 10 = true then
              some (some (t_now_town_limit (p1).toNatClampNeg))
              else none
            else
              some (some ((t_now_town_toldParts >>> (p1 &&& 31)) &&& 1))
      else
        some none
  else
    some none
noncomputable def dn_X11_deal (t_now_book_size : Int32) (t_now_book_deal : Nat → Int32) (t_now_book_way : Nat → Int32) (t_now_town_deals : Int32) (t_now_town_borrower : Nat → Int32) (t_now_town_borrowerGain : Nat → Int32) (t_now_town_either : Nat → Int32) (t_now_town_lender : Nat → Int32) (t_now_town_lenderGain : Nat → Int32) (t_now_town_year : Nat → Int32) (p1 : Int32) (p2 : Int32) : Option (Option Int32) :=
  Option.bind (dn_X10_hasDeal t_now_town_deals p1) fun q1 =>
  if q1 = true then
    if p2 < 0 then
      some none
    else
      if p2 ≤ 6 then
        if p2 = 0 then
          if inb p1 30 = true then
          some (some (t_now_town_lender (p1).toNatClampNeg))
          else none
        else
          if p2 = 1 then
            if inb p1 30 = true then
            some (some (t_now_town_borrower (p1).toNatClampNeg))
            else none
          else
            if p2 = 2 then
              if inb p1 30 = true then
              some (some (t_now_town_year (p1).toNatClampNeg))
              else none
            else
              if p2 = 3 then
                if inb p1 30 = true then
                some (some (t_now_town_lenderGain (p1).toNatClampNeg))
                else none
              else
                if p2 = 4 then
                  if inb p1 30 = true then
                  some (some (t_now_town_borrowerGain (p1).toNatClampNeg))
                  else none
                else
                  if p2 = 5 then
                    if inb p1 30 = true then
                    some (some (t_now_town_either (p1).toNatClampNeg))
                    else none
                  else
                    Option.bind (dn_X0_wayDone t_now_book_size t_now_book_deal t_now_book_way p1) fun q17 =>
                    some (some q17)
      else
        some none
  else
    some none
