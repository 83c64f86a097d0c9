/-! ##### LendTown$Town.otherIn(II)I -/
abbrev rm_X10_otherIn : Room := { frames := 0, cells := 0, slots := 0, locals := 0 }
theorem jy_X10_otherIn : jY yX10_otherIn wsX10_otherIn rm_X10_otherIn cX10_otherIn 3 (some .int) 2 := ⟨⟨_, rfl⟩, ⟨rfl, rfl⟩, by decide, by decide, by decide +kernel⟩
theorem in_X10_otherIn_X10 : ∀ w ∈ u_ws RX10 TX10 17, w ∈ wsX10_otherIn := fun w h => List.mem_cons_of_mem _ (List.mem_append_right _ (h))
theorem fl_X10_otherIn_41 : Cond.fieldLink RX10 41 "LendTown$Town" "lender" "[I" ∈ wsX10_otherIn := List.mem_of_getElem? (i := 1) rfl
theorem fl_X10_otherIn_44 : Cond.fieldLink RX10 44 "LendTown$Town" "borrower" "[I" ∈ wsX10_otherIn := List.mem_of_getElem? (i := 2) rfl
def wd_X10_otherIn (G : jG) (a_t : Nat) (a_t_borrower : Nat) (a_t_lender : Nat) (t_persons : Int32) (t_deals : Int32) (t_lawYears : Int32) (t_toldParts : Int32) (a_t_personNames : Nat) (a_t_born : Nat) (a_t_dies : Nat) (a_t_limit : Nat) (a_t_dealNames : Nat) (a_t_year : Nat) (a_t_lenderGain : Nat) (a_t_borrowerGain : Nat) (a_t_either : Nat) (a_t_byYear : Nat) (a_t_memo : Nat) (t_borrower : Nat → Int32) (t_lender : Nat → Int32) : va_W := [(a_t, .inr (10, [.int t_persons, .int t_deals, .int t_lawYears, .int t_toldParts, .ref a_t_personNames, .ref a_t_born, .ref a_t_dies, .ref a_t_limit, .ref a_t_dealNames, .ref a_t_lender, .ref a_t_borrower, .ref a_t_year, .ref a_t_lenderGain, .ref a_t_borrowerGain, .ref a_t_either, .ref a_t_byYear, .ref a_t_memo])), (a_t_borrower, .inl (G.2.2.1, 30, .inl t_borrower)), (a_t_lender, .inl (G.2.2.1, 30, .inl t_lender))]
set_option maxHeartbeats 8000000 in
set_option maxRecDepth 100000 in
theorem ct_X10_otherIn (l : Launch) (G : jG) (a_t : Nat) (a_t_borrower : Nat) (a_t_lender : Nat) (t_persons : Int32) (t_deals : Int32) (t_lawYears : Int32) (t_toldParts : Int32) (a_t_personNames : Nat) (a_t_born : Nat) (a_t_dies : Nat) (a_t_limit : Nat) (a_t_dealNames : Nat) (a_t_year : Nat) (a_t_lenderGain : Nat) (a_t_borrowerGain : Nat) (a_t_either : Nat) (a_t_byYear : Nat) (a_t_memo : Nat) (t_borrower : Nat → Int32) (t_lender : Nat → Int32) (p1 : Int32) (p2 : Int32) (r : Int32) (hd : dn_X10_otherIn t_borrower t_lender p1 p2 = some r) : jM l G yX10_otherIn wsX10_otherIn rm_X10_otherIn [.ref a_t, .int p1, .int p2] (wd_X10_otherIn G a_t a_t_borrower a_t_lender t_persons t_deals t_lawYears t_toldParts a_t_personNames a_t_born a_t_dies a_t_limit a_t_dealNames a_t_year a_t_lenderGain a_t_borrowerGain a_t_either a_t_byYear a_t_memo t_borrower t_lender) (some (.int r)) (wd_X10_otherIn G a_t a_t_borrower a_t_lender t_persons t_deals t_lawYears t_toldParts a_t_personNames a_t_born a_t_dies a_t_limit a_t_dealNames a_t_year a_t_lenderGain a_t_borrowerGain a_t_either a_t_byYear a_t_memo t_borrower t_lender) := by
  refine jM_of (own := RX10) (by decide) rfl rfl rfl (Nat.le_of_ble_eq_true rfl) (lv0 := [(0, .ref a_t), (1, .int p1), (2, .int p2)]) rfl (fun X C hE => ?_)
  unfold dn_X10_otherIn at hd
  refine j_aload_n (pc := 0) C dX10_otherIn_0 rfl 0 rfl ?_
  refine j_get (pc := 1) (q0 := 0) (ci := 10) (kf := 9) C dX10_otherIn_1 in_X10_otherIn_X10 rfl (by decide) fl_X10_otherIn_41 rfl rfl ?_
  refine j_iload_n (pc := 4) C dX10_otherIn_4 rfl 1 rfl ?_
  obtain ⟨h1, hd⟩ := ob_chk hd
  refine j_iald (pc := 5) (q0 := 2) C dX10_otherIn_5 rfl h1 ?_
  refine j_iload_n (pc := 6) C dX10_otherIn_6 rfl 2 rfl ?_
  refine j_icmp_ne (pc := 7) (tgt := 19) C dX10_otherIn_7 (by decide) (fun c2 => ?_) (fun c2 => ?_)
  · have hd := ob_neg c2 hd
    refine j_aload_n (pc := 19) C dX10_otherIn_19 rfl 0 rfl ?_
    refine j_get (pc := 20) (q0 := 0) (ci := 10) (kf := 9) C dX10_otherIn_20 in_X10_otherIn_X10 rfl (by decide) fl_X10_otherIn_41 rfl rfl ?_
    refine j_iload_n (pc := 23) C dX10_otherIn_23 rfl 1 rfl ?_
    obtain ⟨h3, hd⟩ := ob_chk hd
    refine j_iald (pc := 24) (q0 := 2) C dX10_otherIn_24 rfl h3 ?_
    obtain rfl := Option.some.inj hd
    exact j_iret (pc := 25) C hE dX10_otherIn_25 rfl rfl
  · have hd := ob_pos c2 hd
    refine j_aload_n (pc := 10) C dX10_otherIn_10 rfl 0 rfl ?_
    refine j_get (pc := 11) (q0 := 0) (ci := 10) (kf := 10) C dX10_otherIn_11 in_X10_otherIn_X10 rfl (by decide) fl_X10_otherIn_44 rfl rfl ?_
    refine j_iload_n (pc := 14) C dX10_otherIn_14 rfl 1 rfl ?_
    obtain ⟨h4, hd⟩ := ob_chk hd
    refine j_iald (pc := 15) (q0 := 1) C dX10_otherIn_15 rfl h4 ?_
    refine j_goto (pc := 16) (tgt := 25) C dX10_otherIn_16 (by decide) ?_
    obtain rfl := Option.some.inj hd
    exact j_iret (pc := 25) C hE dX10_otherIn_25 rfl rfl
/-! ##### LendTown$Town.isIn(II)Z -/
abbrev rm_X10_isIn : Room := { frames := 0, cells := 0, slots := 0, locals := 0 }
theorem jy_X10_isIn : jY yX10_isIn wsX10_isIn rm_X10_isIn cX10_isIn 3 (some .boolean) 2 := ⟨⟨_, rfl⟩, ⟨rfl, rfl⟩, by decide, by decide, by decide +kernel⟩
theorem in_X10_isIn_X10 : ∀ w ∈ u_ws RX10 TX10 17, w ∈ wsX10_isIn := fun w h => List.mem_cons_of_mem _ (List.mem_append_right _ (h))
theorem fl_X10_isIn_41 : Cond.fieldLink RX10 41 "LendTown$Town" "lender" "[I" ∈ wsX10_isIn := List.mem_of_getElem? (i := 1) rfl
theorem fl_X10_isIn_44 : Cond.fieldLink RX10 44 "LendTown$Town" "borrower" "[I" ∈ wsX10_isIn := List.mem_of_getElem? (i := 2) rfl
def wd_X10_isIn (G : jG) (a_t : Nat) (a_t_borrower : Nat) (a_t_lender : Nat) (t_persons : Int32) (t_deals : Int32) (t_lawYears : Int32) (t_toldParts : Int32) (a_t_personNames : Nat) (a_t_born : Nat) (a_t_dies : Nat) (a_t_limit : Nat) (a_t_dealNames : Nat) (a_t_year : Nat) (a_t_lenderGain : Nat) (a_t_borrowerGain : Nat) (a_t_either : Nat) (a_t_byYear : Nat) (a_t_memo : Nat) (t_borrower : Nat → Int32) (t_lender : Nat → Int32) : va_W := [(a_t, .inr (10, [.int t_persons, .int t_deals, .int t_lawYears, .int t_toldParts, .ref a_t_personNames, .ref a_t_born, .ref a_t_dies, .ref a_t_limit, .ref a_t_dealNames, .ref a_t_lender, .ref a_t_borrower, .ref a_t_year, .ref a_t_lenderGain, .ref a_t_borrowerGain, .ref a_t_either, .ref a_t_byYear, .ref a_t_memo])), (a_t_borrower, .inl (G.2.2.1, 30, .inl t_borrower)), (a_t_lender, .inl (G.2.2.1, 30, .inl t_lender))]
set_option maxHeartbeats 8000000 in
set_option maxRecDepth 100000 in
theorem ct_X10_isIn (l : Launch) (G : jG) (a_t : Nat) (a_t_borrower : Nat) (a_t_lender : Nat) (t_persons : Int32) (t_deals : Int32) (t_lawYears : Int32) (t_toldParts : Int32) (a_t_personNames : Nat) (a_t_born : Nat) (a_t_dies : Nat) (a_t_limit : Nat) (a_t_dealNames : Nat) (a_t_year : Nat) (a_t_lenderGain : Nat) (a_t_borrowerGain : Nat) (a_t_either : Nat) (a_t_byYear : Nat) (a_t_memo : Nat) (t_borrower : Nat → Int32) (t_lender : Nat → Int32) (p1 : Int32) (p2 : Int32) (r : Bool) (hd : dn_X10_isIn t_borrower t_lender p1 p2 = some r) : jM l G yX10_isIn wsX10_isIn rm_X10_isIn [.ref a_t, .int p1, .int p2] (wd_X10_isIn G a_t a_t_borrower a_t_lender t_persons t_deals t_lawYears t_toldParts a_t_personNames a_t_born a_t_dies a_t_limit a_t_dealNames a_t_year a_t_lenderGain a_t_borrowerGain a_t_either a_t_byYear a_t_memo t_borrower t_lender) (some (.int (b2i r))) (wd_X10_isIn G a_t a_t_borrower a_t_lender t_persons t_deals t_lawYears t_toldParts a_t_personNames a_t_born a_t_dies a_t_limit a_t_dealNames a_t_year a_t_lenderGain a_t_borrowerGain a_t_either a_t_byYear a_t_memo t_borrower t_lender) := by
  refine jM_of (own := RX10) (by decide) rfl rfl rfl (Nat.le_of_ble_eq_true rfl) (lv0 := [(0, .ref a_t), (1, .int p1), (2, .int p2)]) rfl (fun X C hE => ?_)
  unfold dn_X10_isIn at hd
  refine j_aload_n (pc := 0) C dX10_isIn_0 rfl 0 rfl ?_
  refine j_get (pc := 1) (q0 := 0) (ci := 10) (kf := 9) C dX10_isIn_1 in_X10_isIn_X10 rfl (by decide) fl_X10_isIn_41 rfl rfl ?_
  refine j_iload_n (pc := 4) C dX10_isIn_4 rfl 1 rfl ?_
  obtain ⟨h1, hd⟩ := ob_chk hd
  refine j_iald (pc := 5) (q0 := 2) C dX10_isIn_5 rfl h1 ?_
  refine j_iload_n (pc := 6) C dX10_isIn_6 rfl 2 rfl ?_
  refine j_icmp_eq (pc := 7) (tgt := 20) C dX10_isIn_7 (by decide) (fun c2 => ?_) (fun c2 => ?_)
  · have hd := ob_pos c2 hd
    refine j_iconst (pc := 20) (v := 1) C dX10_isIn_20 jk_I1 ?_
    refine j_goto (pc := 21) (tgt := 25) C dX10_isIn_21 (by decide) ?_
    obtain rfl := Option.some.inj hd
    exact j_zret (pc := 25) C hE dX10_isIn_25 rfl rfl rfl
  · have hd := ob_neg c2 hd
    refine j_aload_n (pc := 10) C dX10_isIn_10 rfl 0 rfl ?_
    refine j_get (pc := 11) (q0 := 0) (ci := 10) (kf := 10) C dX10_isIn_11 in_X10_isIn_X10 rfl (by decide) fl_X10_isIn_44 rfl rfl ?_
    refine j_iload_n (pc := 14) C dX10_isIn_14 rfl 1 rfl ?_
    obtain ⟨h3, hd⟩ := ob_chk hd
    refine j_iald (pc := 15) (q0 := 1) C dX10_isIn_15 rfl h3 ?_
    refine j_iload_n (pc := 16) C dX10_isIn_16 rfl 2 rfl ?_
    refine j_icmp_ne (pc := 17) (tgt := 24) C dX10_isIn_17 (by decide) (fun c4 => ?_) (fun c4 => ?_)
    · have hd := ob_neg c4 hd
      refine j_iconst (pc := 24) (v := 0) C dX10_isIn_24 jk_I0 ?_
      obtain rfl := Option.some.inj hd
      exact j_zret (pc := 25) C hE dX10_isIn_25 rfl rfl rfl
    · have hd := ob_pos c4 hd
      refine j_iconst (pc := 20) (v := 1) C dX10_isIn_20 jk_I1 ?_
      refine j_goto (pc := 21) (tgt := 25) C dX10_isIn_21 (by decide) ?_
      obtain rfl := Option.some.inj hd
      exact j_zret (pc := 25) C hE dX10_isIn_25 rfl rfl rfl
/-! ##### LendTown$Town.shareOf(II)I -/
abbrev rm_X10_shareOf : Room := { frames := 0, cells := 0, slots := 0, locals := 0 }
theorem jy_X10_shareOf : jY yX10_shareOf wsX10_shareOf rm_X10_shareOf cX10_shareOf 3 (some .int) 2 := ⟨⟨_, rfl⟩, ⟨rfl, rfl⟩, by decide, by decide, by decide +kernel⟩
theorem in_X10_shareOf_X10 : ∀ w ∈ u_ws RX10 TX10 17, w ∈ wsX10_shareOf := fun w h => List.mem_cons_of_mem _ (List.mem_append_right _ (h))
theorem fl_X10_shareOf_41 : Cond.fieldLink RX10 41 "LendTown$Town" "lender" "[I" ∈ wsX10_shareOf := List.mem_of_getElem? (i := 1) rfl
theorem fl_X10_shareOf_44 : Cond.fieldLink RX10 44 "LendTown$Town" "borrower" "[I" ∈ wsX10_shareOf := List.mem_of_getElem? (i := 3) rfl
theorem fl_X10_shareOf_53 : Cond.fieldLink RX10 53 "LendTown$Town" "borrowerGain" "[I" ∈ wsX10_shareOf := List.mem_of_getElem? (i := 4) rfl
theorem fl_X10_shareOf_50 : Cond.fieldLink RX10 50 "LendTown$Town" "lenderGain" "[I" ∈ wsX10_shareOf := List.mem_of_getElem? (i := 2) rfl
def wd_X10_shareOf (G : jG) (a_t : Nat) (a_t_borrower : Nat) (a_t_borrowerGain : Nat) (a_t_lender : Nat) (a_t_lenderGain : Nat) (t_persons : Int32) (t_deals : Int32) (t_lawYears : Int32) (t_toldParts : Int32) (a_t_personNames : Nat) (a_t_born : Nat) (a_t_dies : Nat) (a_t_limit : Nat) (a_t_dealNames : Nat) (a_t_year : Nat) (a_t_either : Nat) (a_t_byYear : Nat) (a_t_memo : Nat) (t_borrower : Nat → Int32) (t_borrowerGain : Nat → Int32) (t_lender : Nat → Int32) (t_lenderGain : Nat → Int32) : va_W := [(a_t, .inr (10, [.int t_persons, .int t_deals, .int t_lawYears, .int t_toldParts, .ref a_t_personNames, .ref a_t_born, .ref a_t_dies, .ref a_t_limit, .ref a_t_dealNames, .ref a_t_lender, .ref a_t_borrower, .ref a_t_year, .ref a_t_lenderGain, .ref a_t_borrowerGain, .ref a_t_either, .ref a_t_byYear, .ref a_t_memo])), (a_t_borrower, .inl (G.2.2.1, 30, .inl t_borrower)), (a_t_borrowerGain, .inl (G.2.2.1, 30, .inl t_borrowerGain)), (a_t_lender, .inl (G.2.2.1, 30, .inl t_lender)), (a_t_lenderGain, .inl (G.2.2.1, 30, .inl t_lenderGain))]
set_option maxHeartbeats 8000000 in
set_option maxRecDepth 100000 in
theorem ct_X10_shareOf (l : Launch) (G : jG) (a_t : Nat) (a_t_borrower : Nat) (a_t_borrowerGain : Nat) (a_t_lender : Nat) (a_t_lenderGain : Nat) (t_persons : Int32) (t_deals : Int32) (t_lawYears : Int32) (t_toldParts : Int32) (a_t_personNames : Nat) (a_t_born : Nat) (a_t_dies : Nat) (a_t_limit : Nat) (a_t_dealNames : Nat) (a_t_year : Nat) (a_t_either : Nat) (a_t_byYear : Nat) (a_t_memo : Nat) (t_borrower : Nat → Int32) (t_borrowerGain : Nat → Int32) (t_lender : Nat → Int32) (t_lenderGain : Nat → Int32) (p1 : Int32) (p2 : Int32) (r : Int32) (hd : dn_X10_shareOf t_borrower t_borrowerGain t_lender t_lenderGain p1 p2 = some r) : jM l G yX10_shareOf wsX10_shareOf rm_X10_shareOf [.ref a_t, .int p1, .int p2] (wd_X10_shareOf G a_t a_t_borrower a_t_borrowerGain a_t_lender a_t_lenderGain t_persons t_deals t_lawYears t_toldParts a_t_personNames a_t_born a_t_dies a_t_limit a_t_dealNames a_t_year a_t_either a_t_byYear a_t_memo t_borrower t_borrowerGain t_lender t_lenderGain) (some (.int r)) (wd_X10_shareOf G a_t a_t_borrower a_t_borrowerGain a_t_lender a_t_lenderGain t_persons t_deals t_lawYears t_toldParts a_t_personNames a_t_born a_t_dies a_t_limit a_t_dealNames a_t_year a_t_either a_t_byYear a_t_memo t_borrower t_borrowerGain t_lender t_lenderGain) := by
  refine jM_of (own := RX10) (by decide) rfl rfl rfl (Nat.le_of_ble_eq_true rfl) (lv0 := [(0, .ref a_t), (1, .int p1), (2, .int p2)]) rfl (fun X C hE => ?_)
  unfold dn_X10_shareOf at hd
  refine j_aload_n (pc := 0) C dX10_shareOf_0 rfl 0 rfl ?_
  refine j_get (pc := 1) (q0 := 0) (ci := 10) (kf := 9) C dX10_shareOf_1 in_X10_shareOf_X10 rfl (by decide) fl_X10_shareOf_41 rfl rfl ?_
  refine j_iload_n (pc := 4) C dX10_shareOf_4 rfl 1 rfl ?_
  obtain ⟨h1, hd⟩ := ob_chk hd
  refine j_iald (pc := 5) (q0 := 3) C dX10_shareOf_5 rfl h1 ?_
  refine j_iload_n (pc := 6) C dX10_shareOf_6 rfl 2 rfl ?_
  refine j_icmp_ne (pc := 7) (tgt := 19) C dX10_shareOf_7 (by decide) (fun c2 => ?_) (fun c2 => ?_)
  · have hd := ob_neg c2 hd
    refine j_aload_n (pc := 19) C dX10_shareOf_19 rfl 0 rfl ?_
    refine j_get (pc := 20) (q0 := 0) (ci := 10) (kf := 10) C dX10_shareOf_20 in_X10_shareOf_X10 rfl (by decide) fl_X10_shareOf_44 rfl rfl ?_
    refine j_iload_n (pc := 23) C dX10_shareOf_23 rfl 1 rfl ?_
    obtain ⟨h3, hd⟩ := ob_chk hd
    refine j_iald (pc := 24) (q0 := 1) C dX10_shareOf_24 rfl h3 ?_
    refine j_iload_n (pc := 25) C dX10_shareOf_25 rfl 2 rfl ?_
    refine j_icmp_ne (pc := 26) (tgt := 38) C dX10_shareOf_26 (by decide) (fun c4 => ?_) (fun c4 => ?_)
    · have hd := ob_neg c4 hd
      refine j_iconst (pc := 38) (v := 0) C dX10_shareOf_38 jk_I0 ?_
      obtain rfl := Option.some.inj hd
      exact j_iret (pc := 39) C hE dX10_shareOf_39 rfl rfl
    · have hd := ob_pos c4 hd
      refine j_aload_n (pc := 29) C dX10_shareOf_29 rfl 0 rfl ?_
      refine j_get (pc := 30) (q0 := 0) (ci := 10) (kf := 13) C dX10_shareOf_30 in_X10_shareOf_X10 rfl (by decide) fl_X10_shareOf_53 rfl rfl ?_
      refine j_iload_n (pc := 33) C dX10_shareOf_33 rfl 1 rfl ?_
      obtain ⟨h5, hd⟩ := ob_chk hd
      refine j_iald (pc := 34) (q0 := 2) C dX10_shareOf_34 rfl h5 ?_
      refine j_goto (pc := 35) (tgt := 39) C dX10_shareOf_35 (by decide) ?_
      obtain rfl := Option.some.inj hd
      exact j_iret (pc := 39) C hE dX10_shareOf_39 rfl rfl
  · have hd := ob_pos c2 hd
    refine j_aload_n (pc := 10) C dX10_shareOf_10 rfl 0 rfl ?_
    refine j_get (pc := 11) (q0 := 0) (ci := 10) (kf := 12) C dX10_shareOf_11 in_X10_shareOf_X10 rfl (by decide) fl_X10_shareOf_50 rfl rfl ?_
    refine j_iload_n (pc := 14) C dX10_shareOf_14 rfl 1 rfl ?_
    obtain ⟨h6, hd⟩ := ob_chk hd
    refine j_iald (pc := 15) (q0 := 4) C dX10_shareOf_15 rfl h6 ?_
    refine j_goto (pc := 16) (tgt := 39) C dX10_shareOf_16 (by decide) ?_
    obtain rfl := Option.some.inj hd
    exact j_iret (pc := 39) C hE dX10_shareOf_39 rfl rfl
/-! ##### LendTown$Town.goesBy(II)Z -/
abbrev rm_X10_goesBy : Room := { frames := 0, cells := 0, slots := 0, locals := 0 }
theorem jy_X10_goesBy : jY yX10_goesBy wsX10_goesBy rm_X10_goesBy cX10_goesBy 5 (some .boolean) 2 := ⟨⟨_, rfl⟩, ⟨rfl, rfl⟩, by decide, by decide, by decide +kernel⟩
theorem in_X10_goesBy_X10 : ∀ w ∈ u_ws RX10 TX10 17, w ∈ wsX10_goesBy := fun w h => List.mem_cons_of_mem _ (List.mem_append_right _ (h))
theorem fl_X10_goesBy_41 : Cond.fieldLink RX10 41 "LendTown$Town" "lender" "[I" ∈ wsX10_goesBy := List.mem_of_getElem? (i := 1) rfl
theorem fl_X10_goesBy_44 : Cond.fieldLink RX10 44 "LendTown$Town" "borrower" "[I" ∈ wsX10_goesBy := List.mem_of_getElem? (i := 2) rfl
theorem fl_X10_goesBy_56 : Cond.fieldLink RX10 56 "LendTown$Town" "either" "[I" ∈ wsX10_goesBy := List.mem_of_getElem? (i := 3) rfl
def wd_X10_goesBy (G : jG) (a_t : Nat) (a_t_borrower : Nat) (a_t_either : Nat) (a_t_lender : Nat) (t_persons : Int32) (t_deals : Int32) (t_lawYears : Int32) (t_toldParts : Int32) (a_t_personNames : Nat) (a_t_born : Nat) (a_t_dies : Nat) (a_t_limit : Nat) (a_t_dealNames : Nat) (a_t_year : Nat) (a_t_lenderGain : Nat) (a_t_borrowerGain : Nat) (a_t_byYear : Nat) (a_t_memo : Nat) (t_borrower : Nat → Int32) (t_either : Nat → Int32) (t_lender : Nat → Int32) : va_W := [(a_t, .inr (10, [.int t_persons, .int t_deals, .int t_lawYears, .int t_toldParts, .ref a_t_personNames, .ref a_t_born, .ref a_t_dies, .ref a_t_limit, .ref a_t_dealNames, .ref a_t_lender, .ref a_t_borrower, .ref a_t_year, .ref a_t_lenderGain, .ref a_t_borrowerGain, .ref a_t_either, .ref a_t_byYear, .ref a_t_memo])), (a_t_borrower, .inl (G.2.2.1, 30, .inl t_borrower)), (a_t_either, .inl (G.2.2.1, 30, .inl t_either)), (a_t_lender, .inl (G.2.2.1, 30, .inl t_lender))]
set_option maxHeartbeats 8000000 in
set_option maxRecDepth 100000 in
theorem ct_X10_goesBy (l : Launch) (G : jG) (a_t : Nat) (a_t_borrower : Nat) (a_t_either : Nat) (a_t_lender : Nat) (t_persons : Int32) (t_deals : Int32) (t_lawYears : Int32) (t_toldParts : Int32) (a_t_personNames : Nat) (a_t_born : Nat) (a_t_dies : Nat) (a_t_limit : Nat) (a_t_dealNames : Nat) (a_t_year : Nat) (a_t_lenderGain : Nat) (a_t_borrowerGain : Nat) (a_t_byYear : Nat) (a_t_memo : Nat) (t_borrower : Nat → Int32) (t_either : Nat → Int32) (t_lender : Nat → Int32) (p1 : Int32) (p2 : Int32) (r : Bool) (hd : dn_X10_goesBy t_borrower t_either t_lender p1 p2 = some r) : jM l G yX10_goesBy wsX10_goesBy rm_X10_goesBy [.ref a_t, .int p1, .int p2] (wd_X10_goesBy G a_t a_t_borrower a_t_either a_t_lender t_persons t_deals t_lawYears t_toldParts a_t_personNames a_t_born a_t_dies a_t_limit a_t_dealNames a_t_year a_t_lenderGain a_t_borrowerGain a_t_byYear a_t_memo t_borrower t_either t_lender) (some (.int (b2i r))) (wd_X10_goesBy G a_t a_t_borrower a_t_either a_t_lender t_persons t_deals t_lawYears t_toldParts a_t_personNames a_t_born a_t_dies a_t_limit a_t_dealNames a_t_year a_t_lenderGain a_t_borrowerGain a_t_byYear a_t_memo t_borrower t_either t_lender) := by
  refine jM_of (own := RX10) (by decide) rfl rfl rfl (Nat.le_of_ble_eq_true rfl) (lv0 := [(0, .ref a_t), (1, .int p1), (2, .int p2)]) rfl (fun X C hE => ?_)
  unfold dn_X10_goesBy at hd
  refine j_iload_n (pc := 0) C dX10_goesBy_0 rfl 2 rfl ?_
  refine j_aload_n (pc := 1) C dX10_goesBy_1 rfl 0 rfl ?_
  refine j_get (pc := 2) (q0 := 0) (ci := 10) (kf := 9) C dX10_goesBy_2 in_X10_goesBy_X10 rfl (by decide) fl_X10_goesBy_41 rfl rfl ?_
  refine j_iload_n (pc := 5) C dX10_goesBy_5 rfl 1 rfl ?_
  obtain ⟨h1, hd⟩ := ob_chk hd
  refine j_iald (pc := 6) (q0 := 3) C dX10_goesBy_6 rfl h1 ?_
  refine j_ishr (pc := 7) C dX10_goesBy_7 ?_
  refine j_iconst (pc := 8) (v := 1) C dX10_goesBy_8 jk_I1 ?_
  refine j_iand (pc := 9) C dX10_goesBy_9 ?_
  refine j_istore_n (pc := 10) (lv2 := [(0, .ref a_t), (1, .int p1), (2, .int p2), (3, .int ((p2 >>> ((t_lender (p1).toNatClampNeg) &&& 31)) &&& 1))]) C dX10_goesBy_10 rfl (by decide) [1, 2, 3, 0] rfl ?_
  refine j_iload_n (pc := 11) C dX10_goesBy_11 rfl 2 rfl ?_
  refine j_aload_n (pc := 12) C dX10_goesBy_12 rfl 0 rfl ?_
  refine j_get (pc := 13) (q0 := 0) (ci := 10) (kf := 10) C dX10_goesBy_13 in_X10_goesBy_X10 rfl (by decide) fl_X10_goesBy_44 rfl rfl ?_
  refine j_iload_n (pc := 16) C dX10_goesBy_16 rfl 1 rfl ?_
  obtain ⟨h2, hd⟩ := ob_chk hd
  refine j_iald (pc := 17) (q0 := 1) C dX10_goesBy_17 rfl h2 ?_
  refine j_ishr (pc := 18) C dX10_goesBy_18 ?_
  refine j_iconst (pc := 19) (v := 1) C dX10_goesBy_19 jk_I1 ?_
  refine j_iand (pc := 20) C dX10_goesBy_20 ?_
  refine j_istore (pc := 21) (lv2 := [(0, .ref a_t), (1, .int p1), (3, .int ((p2 >>> ((t_lender (p1).toNatClampNeg) &&& 31)) &&& 1)), (4, .int ((p2 >>> ((t_borrower (p1).toNatClampNeg) &&& 31)) &&& 1))]) C dX10_goesBy_21 (by decide) [1, 2, 4, 0] rfl ?_
  refine j_iload_n (pc := 23) C dX10_goesBy_23 rfl 2 rfl ?_
  refine j_iload (pc := 24) C dX10_goesBy_24 3 rfl ?_
  refine j_icmp_eq (pc := 26) (tgt := 48) C dX10_goesBy_26 (by decide) (fun c3 => ?_) (fun c3 => ?_)
  · have hd := ob_pos c3 hd
    refine j_iconst (pc := 48) (v := 0) C dX10_goesBy_48 jk_I0 ?_
    obtain rfl := Option.some.inj hd
    exact j_zret (pc := 49) C hE dX10_goesBy_49 rfl rfl rfl
  · have hd := ob_neg c3 hd
    refine j_iload_n (pc := 29) C dX10_goesBy_29 rfl 2 rfl ?_
    refine j_iconst (pc := 30) (v := 1) C dX10_goesBy_30 jk_I1 ?_
    refine j_icmp_eq (pc := 31) (tgt := 44) C dX10_goesBy_31 (by decide) (fun c4 => ?_) (fun c4 => ?_)
    · have hd := ob_pos c4 hd
      refine j_iconst (pc := 44) (v := 1) C dX10_goesBy_44 jk_I1 ?_
      refine j_goto (pc := 45) (tgt := 49) C dX10_goesBy_45 (by decide) ?_
      obtain rfl := Option.some.inj hd
      exact j_zret (pc := 49) C hE dX10_goesBy_49 rfl rfl rfl
    · have hd := ob_neg c4 hd
      refine j_aload_n (pc := 34) C dX10_goesBy_34 rfl 0 rfl ?_
      refine j_get (pc := 35) (q0 := 0) (ci := 10) (kf := 14) C dX10_goesBy_35 in_X10_goesBy_X10 rfl (by decide) fl_X10_goesBy_56 rfl rfl ?_
      refine j_iload_n (pc := 38) C dX10_goesBy_38 rfl 1 rfl ?_
      obtain ⟨h5, hd⟩ := ob_chk hd
      refine j_iald (pc := 39) (q0 := 2) C dX10_goesBy_39 rfl h5 ?_
      refine j_iconst (pc := 40) (v := 1) C dX10_goesBy_40 jk_I1 ?_
      refine j_icmp_ne (pc := 41) (tgt := 48) C dX10_goesBy_41 (by decide) (fun c6 => ?_) (fun c6 => ?_)
      · have hd := ob_neg c6 hd
        refine j_iconst (pc := 48) (v := 0) C dX10_goesBy_48 jk_I0 ?_
        obtain rfl := Option.some.inj hd
        exact j_zret (pc := 49) C hE dX10_goesBy_49 rfl rfl rfl
      · have hd := ob_pos c6 hd
        refine j_iconst (pc := 44) (v := 1) C dX10_goesBy_44 jk_I1 ?_
        refine j_goto (pc := 45) (tgt := 49) C dX10_goesBy_45 (by decide) ?_
        obtain rfl := Option.some.inj hd
        exact j_zret (pc := 49) C hE dX10_goesBy_49 rfl rfl rfl
/-! ##### LendTown$Town.bothShares(I)I -/
abbrev rm_X10_bothShares : Room := { frames := 0, cells := 0, slots := 0, locals := 0 }
theorem jy_X10_bothShares : jY yX10_bothShares wsX10_bothShares rm_X10_bothShares cX10_bothShares 2 (some .int) 1 := ⟨⟨_, rfl⟩, ⟨rfl, rfl⟩, by decide, by decide, by decide +kernel⟩
theorem in_X10_bothShares_X10 : ∀ w ∈ u_ws RX10 TX10 17, w ∈ wsX10_bothShares := fun w h => List.mem_cons_of_mem _ (List.mem_append_right _ (h))
theorem fl_X10_bothShares_50 : Cond.fieldLink RX10 50 "LendTown$Town" "lenderGain" "[I" ∈ wsX10_bothShares := List.mem_of_getElem? (i := 1) rfl
theorem fl_X10_bothShares_53 : Cond.fieldLink RX10 53 "LendTown$Town" "borrowerGain" "[I" ∈ wsX10_bothShares := List.mem_of_getElem? (i := 2) rfl
def wd_X10_bothShares (G : jG) (a_t : Nat) (a_t_borrowerGain : Nat) (a_t_lenderGain : Nat) (t_persons : Int32) (t_deals : Int32) (t_lawYears : Int32) (t_toldParts : Int32) (a_t_personNames : Nat) (a_t_born : Nat) (a_t_dies : Nat) (a_t_limit : Nat) (a_t_dealNames : Nat) (a_t_lender : Nat) (a_t_borrower : Nat) (a_t_year : Nat) (a_t_either : Nat) (a_t_byYear : Nat) (a_t_memo : Nat) (t_borrowerGain : Nat → Int32) (t_lenderGain : Nat → Int32) : va_W := [(a_t, .inr (10, [.int t_persons, .int t_deals, .int t_lawYears, .int t_toldParts, .ref a_t_personNames, .ref a_t_born, .ref a_t_dies, .ref a_t_limit, .ref a_t_dealNames, .ref a_t_lender, .ref a_t_borrower, .ref a_t_year, .ref a_t_lenderGain, .ref a_t_borrowerGain, .ref a_t_either, .ref a_t_byYear, .ref a_t_memo])), (a_t_borrowerGain, .inl (G.2.2.1, 30, .inl t_borrowerGain)), (a_t_lenderGain, .inl (G.2.2.1, 30, .inl t_lenderGain))]
set_option maxHeartbeats 8000000 in
set_option maxRecDepth 100000 in
theorem ct_X10_bothShares (l : Launch) (G : jG) (a_t : Nat) (a_t_borrowerGain : Nat) (a_t_lenderGain : Nat) (t_persons : Int32) (t_deals : Int32) (t_lawYears : Int32) (t_toldParts : Int32) (a_t_personNames : Nat) (a_t_born : Nat) (a_t_dies : Nat) (a_t_limit : Nat) (a_t_dealNames : Nat) (a_t_lender : Nat) (a_t_borrower : Nat) (a_t_year : Nat) (a_t_either : Nat) (a_t_byYear : Nat) (a_t_memo : Nat) (t_borrowerGain : Nat → Int32) (t_lenderGain : Nat → Int32) (p1 : Int32) (r : Int32) (hd : dn_X10_bothShares t_borrowerGain t_lenderGain p1 = some r) : jM l G yX10_bothShares wsX10_bothShares rm_X10_bothShares [.ref a_t, .int p1] (wd_X10_bothShares G a_t a_t_borrowerGain a_t_lenderGain t_persons t_deals t_lawYears t_toldParts a_t_personNames a_t_born a_t_dies a_t_limit a_t_dealNames a_t_lender a_t_borrower a_t_year a_t_either a_t_byYear a_t_memo t_borrowerGain t_lenderGain) (some (.int r)) (wd_X10_bothShares G a_t a_t_borrowerGain a_t_lenderGain t_persons t_deals t_lawYears t_toldParts a_t_personNames a_t_born a_t_dies a_t_limit a_t_dealNames a_t_lender a_t_borrower a_t_year a_t_either a_t_byYear a_t_memo t_borrowerGain t_lenderGain) := by
  refine jM_of (own := RX10) (by decide) rfl rfl rfl (Nat.le_of_ble_eq_true rfl) (lv0 := [(0, .ref a_t), (1, .int p1)]) rfl (fun X C hE => ?_)
  unfold dn_X10_bothShares at hd
  refine j_aload_n (pc := 0) C dX10_bothShares_0 rfl 0 rfl ?_
  refine j_get (pc := 1) (q0 := 0) (ci := 10) (kf := 12) C dX10_bothShares_1 in_X10_bothShares_X10 rfl (by decide) fl_X10_bothShares_50 rfl rfl ?_
  refine j_iload_n (pc := 4) C dX10_bothShares_4 rfl 1 rfl ?_
  obtain ⟨h1, hd⟩ := ob_chk hd
  refine j_iald (pc := 5) (q0 := 2) C dX10_bothShares_5 rfl h1 ?_
  refine j_aload_n (pc := 6) C dX10_bothShares_6 rfl 0 rfl ?_
  refine j_get (pc := 7) (q0 := 0) (ci := 10) (kf := 13) C dX10_bothShares_7 in_X10_bothShares_X10 rfl (by decide) fl_X10_bothShares_53 rfl rfl ?_
  refine j_iload_n (pc := 10) C dX10_bothShares_10 rfl 1 rfl ?_
  obtain ⟨h2, hd⟩ := ob_chk hd
  refine j_iald (pc := 11) (q0 := 1) C dX10_bothShares_11 rfl h2 ?_
  refine j_iadd (pc := 12) C dX10_bothShares_12 ?_
  obtain rfl := Option.some.inj hd
  exact j_iret (pc := 13) C hE dX10_bothShares_13 rfl rfl
/-! ##### LendTown$Memo.forget()V -/
abbrev rm_X5_forget : Room := { frames := 1, cells := 0, slots := 0, locals := 23 }
theorem jy_X5_forget : jY yX5_forget wsX5_forget rm_X5_forget cX5_forget 1 none 0 := ⟨⟨_, rfl⟩, ⟨rfl, rfl⟩, by decide, by decide, by decide +kernel⟩
theorem in_X5_forget_X5 : ∀ w ∈ u_ws RX5 TX5 5, w ∈ wsX5_forget := fun w h => List.mem_cons_of_mem _ (List.mem_append_right _ (h))
theorem fl_X5_forget_9 : Cond.fieldLink RX5 9 "LendTown$Memo" "gains" "[I" ∈ wsX5_forget := List.mem_of_getElem? (i := 1) rfl
theorem fl_X5_forget_18 : Cond.fieldLink RX5 18 "LendTown$Memo" "restCount" "I" ∈ wsX5_forget := List.mem_of_getElem? (i := 2) rfl
theorem fl_X5_forget_25 : Cond.fieldLink RX5 25 "LendTown$Memo" "lawfulGain" "I" ∈ wsX5_forget := List.mem_of_getElem? (i := 3) rfl
def wd_X5_forget (G : jG) (a_t : Nat) (a_t_gains : Nat) (a_t_rests : Nat) (t_restCount : Int32) (a_t_lawfulWays : Nat) (t_lawfulGain : Int32) (t_gains : Nat → Int32) : va_W := [(a_t, .inr (5, [.ref a_t_gains, .ref a_t_rests, .int t_restCount, .ref a_t_lawfulWays, .int t_lawfulGain])), (a_t_gains, .inl (G.2.2.1, 1024, .inl t_gains))]
set_option maxHeartbeats 8000000 in
set_option maxRecDepth 100000 in
theorem ct_X5_forget (l : Launch) (G : jG) (a_t : Nat) (a_t_gains : Nat) (a_t_rests : Nat) (t_restCount : Int32) (a_t_lawfulWays : Nat) (t_lawfulGain : Int32) (t_gains : Nat → Int32)  (r : (Nat → Int32) × Int32 × Int32) (hd : dn_X5_forget t_gains = some r) : jM l G yX5_forget wsX5_forget rm_X5_forget [.ref a_t] (wd_X5_forget G a_t a_t_gains a_t_rests t_restCount a_t_lawfulWays t_lawfulGain t_gains) none (wd_X5_forget G a_t a_t_gains a_t_rests r.2.1 a_t_lawfulWays r.2.2 r.1) := by
  refine jM_of (own := RX5) (by decide) rfl rfl rfl (Nat.le_of_ble_eq_true rfl) (lv0 := [(0, .ref a_t)]) rfl (fun X C hE => ?_)
  unfold dn_X5_forget at hd
  refine j_aload_n (pc := 0) C dX5_forget_0 rfl 0 rfl ?_
  refine j_get (pc := 1) (q0 := 0) (ci := 5) (kf := 0) C dX5_forget_1 in_X5_forget_X5 rfl (by decide) fl_X5_forget_9 rfl rfl ?_
  refine j_iconst (pc := 4) (v := (-1)) C dX5_forget_4 jk_Im1 ?_
  refine j_callS (pc := 5) (As := [.ref a_t_gains, .int (-1)]) (rest := []) (st2 := []) (ws2 := wd_X5_forget G a_t a_t_gains a_t_rests t_restCount a_t_lawfulWays t_lawfulGain (jfill 1024 t_gains (-1))) C (ct_fill l G 1024 a_t_gains t_gains (-1) (by decide)) jy_J7_fill_53178 dX5_forget_5 gX5_forget_J7_fill_53178 rfl (by decide) ⟨Nat.zero_le _, Nat.zero_le _⟩ [1] rfl rfl (jpt_eq rfl rfl rfl) rfl (Nat.le_of_ble_eq_true rfl) rfl ?_
  refine j_aload_n (pc := 8) C dX5_forget_8 rfl 0 rfl ?_
  refine j_iconst (pc := 9) (v := (-1)) C dX5_forget_9 jk_Im1 ?_
  refine j_put (pc := 10) (q0 := 0) (ci := 5) (kf := 2) (ws2 := wd_X5_forget G a_t a_t_gains a_t_rests (-1) a_t_lawfulWays t_lawfulGain (jfill 1024 t_gains (-1))) C dX5_forget_10 in_X5_forget_X5 tyX5 tyX5_ok nmX5 rfl (by decide) fl_X5_forget_18 rfl rfl rfl rfl (Nat.le_of_ble_eq_true rfl) rfl ?_
  refine j_aload_n (pc := 13) C dX5_forget_13 rfl 0 rfl ?_
  refine j_iconst (pc := 14) (v := (-1)) C dX5_forget_14 jk_Im1 ?_
  refine j_put (pc := 15) (q0 := 0) (ci := 5) (kf := 4) (ws2 := wd_X5_forget G a_t a_t_gains a_t_rests (-1) a_t_lawfulWays (-1) (jfill 1024 t_gains (-1))) C dX5_forget_15 in_X5_forget_X5 tyX5 tyX5_ok nmX5 rfl (by decide) fl_X5_forget_25 rfl rfl rfl rfl (Nat.le_of_ble_eq_true rfl) rfl ?_
  obtain rfl := Option.some.inj hd
  exact j_vret (pc := 18) C hE dX5_forget_18 rfl rfl
/-! ##### LendTown$Memo.copyFrom(LLendTown$Memo;)V -/
abbrev rm_X5_copyFrom : Room := { frames := 1, cells := 0, slots := 0, locals := 64 }
theorem jy_X5_copyFrom : jY yX5_copyFrom wsX5_copyFrom rm_X5_copyFrom cX5_copyFrom 2 none 1 := ⟨⟨_, rfl⟩, ⟨rfl, rfl⟩, by decide, by decide, by decide +kernel⟩
theorem in_X5_copyFrom_X5 : ∀ w ∈ u_ws RX5 TX5 5, w ∈ wsX5_copyFrom := fun w h => List.mem_cons_of_mem _ (List.mem_append_right _ (h))
theorem fl_X5_copyFrom_9 : Cond.fieldLink RX5 9 "LendTown$Memo" "gains" "[I" ∈ wsX5_copyFrom := List.mem_of_getElem? (i := 1) rfl
theorem fl_X5_copyFrom_15 : Cond.fieldLink RX5 15 "LendTown$Memo" "rests" "[I" ∈ wsX5_copyFrom := List.mem_of_getElem? (i := 6) rfl
theorem fl_X5_copyFrom_22 : Cond.fieldLink RX5 22 "LendTown$Memo" "lawfulWays" "[I" ∈ wsX5_copyFrom := List.mem_of_getElem? (i := 7) rfl
theorem fl_X5_copyFrom_18 : Cond.fieldLink RX5 18 "LendTown$Memo" "restCount" "I" ∈ wsX5_copyFrom := List.mem_of_getElem? (i := 8) rfl
theorem fl_X5_copyFrom_25 : Cond.fieldLink RX5 25 "LendTown$Memo" "lawfulGain" "I" ∈ wsX5_copyFrom := List.mem_of_getElem? (i := 9) rfl
def wd_X5_copyFrom (G : jG) (a_t : Nat) (a_t_gains : Nat) (a_t_lawfulWays : Nat) (a_t_rests : Nat) (a_p1 : Nat) (a_p1_gains : Nat) (a_p1_lawfulWays : Nat) (a_p1_rests : Nat) (t_restCount : Int32) (t_lawfulGain : Int32) (t_gains : Nat → Int32) (t_lawfulWays : Nat → Int32) (t_rests : Nat → Int32) (p1_restCount : Int32) (p1_lawfulGain : Int32) (p1_gains : Nat → Int32) (p1_lawfulWays : Nat → Int32) (p1_rests : Nat → Int32) : va_W := [(a_t, .inr (5, [.ref a_t_gains, .ref a_t_rests, .int t_restCount, .ref a_t_lawfulWays, .int t_lawfulGain])), (a_t_gains, .inl (G.2.2.1, 1024, .inl t_gains)), (a_t_lawfulWays, .inl (G.2.2.1, 12, .inl t_lawfulWays)), (a_t_rests, .inl (G.2.2.1, 1024, .inl t_rests)), (a_p1, .inr (5, [.ref a_p1_gains, .ref a_p1_rests, .int p1_restCount, .ref a_p1_lawfulWays, .int p1_lawfulGain])), (a_p1_gains, .inl (G.2.2.1, 1024, .inl p1_gains)), (a_p1_lawfulWays, .inl (G.2.2.1, 12, .inl p1_lawfulWays)), (a_p1_rests, .inl (G.2.2.1, 1024, .inl p1_rests))]
set_option maxHeartbeats 8000000 in
set_option maxRecDepth 100000 in
theorem ct_X5_copyFrom (l : Launch) (G : jG) (a_t : Nat) (a_t_gains : Nat) (a_t_lawfulWays : Nat) (a_t_rests : Nat) (a_p1 : Nat) (a_p1_gains : Nat) (a_p1_lawfulWays : Nat) (a_p1_rests : Nat) (t_restCount : Int32) (t_lawfulGain : Int32) (t_gains : Nat → Int32) (t_lawfulWays : Nat → Int32) (t_rests : Nat → Int32) (p1_restCount : Int32) (p1_lawfulGain : Int32) (p1_gains : Nat → Int32) (p1_lawfulWays : Nat → Int32) (p1_rests : Nat → Int32)  (r : (Nat → Int32) × (Nat → Int32) × (Nat → Int32) × Int32 × Int32) (hd : dn_X5_copyFrom t_gains t_lawfulWays t_rests p1_restCount p1_lawfulGain p1_gains p1_lawfulWays p1_rests = some r) : jM l G yX5_copyFrom wsX5_copyFrom rm_X5_copyFrom [.ref a_t, .ref a_p1] (wd_X5_copyFrom G a_t a_t_gains a_t_lawfulWays a_t_rests a_p1 a_p1_gains a_p1_lawfulWays a_p1_rests t_restCount t_lawfulGain t_gains t_lawfulWays t_rests p1_restCount p1_lawfulGain p1_gains p1_lawfulWays p1_rests) none (wd_X5_copyFrom G a_t a_t_gains a_t_lawfulWays a_t_rests a_p1 a_p1_gains a_p1_lawfulWays a_p1_rests r.2.2.2.1 r.2.2.2.2 r.1 r.2.2.1 r.2.1 p1_restCount p1_lawfulGain p1_gains p1_lawfulWays p1_rests) := by
  refine jM_of (own := RX5) (by decide) rfl rfl rfl (Nat.le_of_ble_eq_true rfl) (lv0 := [(0, .ref a_t), (1, .ref a_p1)]) rfl (fun X C hE => ?_)
  unfold dn_X5_copyFrom at hd
  refine j_aload_n (pc := 0) C dX5_copyFrom_0 rfl 1 rfl ?_
  refine j_get (pc := 1) (q0 := 4) (ci := 5) (kf := 0) C dX5_copyFrom_1 in_X5_copyFrom_X5 rfl (by decide) fl_X5_copyFrom_9 rfl rfl ?_
  refine j_iconst (pc := 4) (v := 0) C dX5_copyFrom_4 jk_I0 ?_
  refine j_aload_n (pc := 5) C dX5_copyFrom_5 rfl 0 rfl ?_
  refine j_get (pc := 6) (q0 := 0) (ci := 5) (kf := 0) C dX5_copyFrom_6 in_X5_copyFrom_X5 rfl (by decide) fl_X5_copyFrom_9 rfl rfl ?_
  refine j_iconst (pc := 9) (v := 0) C dX5_copyFrom_9 jk_I0 ?_
  refine j_sipush (pc := 10) (v := 1024) C dX5_copyFrom_10 jk_S1024 ?_
  refine j_copyi (pc := 13) (q0 := 5) (q1 := 1) (ws2 := wd_X5_copyFrom G a_t a_t_gains a_t_lawfulWays a_t_rests a_p1 a_p1_gains a_p1_lawfulWays a_p1_rests t_restCount t_lawfulGain (va_cpy p1_gains t_gains (0 : Int32).toNatClampNeg (0 : Int32).toNatClampNeg (1024 : Int32).toNatClampNeg) t_lawfulWays t_rests p1_restCount p1_lawfulGain p1_gains p1_lawfulWays p1_rests) C dX5_copyFrom_13 (List.mem_of_getElem? (i := 2) rfl) (List.mem_of_getElem? (i := 3) rfl) (List.mem_of_getElem? (i := 4) rfl) (List.mem_of_getElem? (i := 5) rfl) rfl rfl (by decide) (by decide) (by decide) (by decide) (by decide) (by decide) (Nat.le_of_ble_eq_true rfl) rfl ?_
  refine j_aload_n (pc := 16) C dX5_copyFrom_16 rfl 1 rfl ?_
  refine j_get (pc := 17) (q0 := 4) (ci := 5) (kf := 1) C dX5_copyFrom_17 in_X5_copyFrom_X5 rfl (by decide) fl_X5_copyFrom_15 rfl rfl ?_
  refine j_iconst (pc := 20) (v := 0) C dX5_copyFrom_20 jk_I0 ?_
  refine j_aload_n (pc := 21) C dX5_copyFrom_21 rfl 0 rfl ?_
  refine j_get (pc := 22) (q0 := 0) (ci := 5) (kf := 1) C dX5_copyFrom_22 in_X5_copyFrom_X5 rfl (by decide) fl_X5_copyFrom_15 rfl rfl ?_
  refine j_iconst (pc := 25) (v := 0) C dX5_copyFrom_25 jk_I0 ?_
  refine j_sipush (pc := 26) (v := 1024) C dX5_copyFrom_26 jk_S1024 ?_
  refine j_copyi (pc := 29) (q0 := 7) (q1 := 3) (ws2 := wd_X5_copyFrom G a_t a_t_gains a_t_lawfulWays a_t_rests a_p1 a_p1_gains a_p1_lawfulWays a_p1_rests t_restCount t_lawfulGain (va_cpy p1_gains t_gains (0 : Int32).toNatClampNeg (0 : Int32).toNatClampNeg (1024 : Int32).toNatClampNeg) t_lawfulWays (va_cpy p1_rests t_rests (0 : Int32).toNatClampNeg (0 : Int32).toNatClampNeg (1024 : Int32).toNatClampNeg) p1_restCount p1_lawfulGain p1_gains p1_lawfulWays p1_rests) C dX5_copyFrom_29 (List.mem_of_getElem? (i := 2) rfl) (List.mem_of_getElem? (i := 3) rfl) (List.mem_of_getElem? (i := 4) rfl) (List.mem_of_getElem? (i := 5) rfl) rfl rfl (by decide) (by decide) (by decide) (by decide) (by decide) (by decide) (Nat.le_of_ble_eq_true rfl) rfl ?_
  refine j_aload_n (pc := 32) C dX5_copyFrom_32 rfl 1 rfl ?_
  refine j_get (pc := 33) (q0 := 4) (ci := 5) (kf := 3) C dX5_copyFrom_33 in_X5_copyFrom_X5 rfl (by decide) fl_X5_copyFrom_22 rfl rfl ?_
  refine j_iconst (pc := 36) (v := 0) C dX5_copyFrom_36 jk_I0 ?_
  refine j_aload_n (pc := 37) C dX5_copyFrom_37 rfl 0 rfl ?_
  refine j_get (pc := 38) (q0 := 0) (ci := 5) (kf := 3) C dX5_copyFrom_38 in_X5_copyFrom_X5 rfl (by decide) fl_X5_copyFrom_22 rfl rfl ?_
  refine j_iconst (pc := 41) (v := 0) C dX5_copyFrom_41 jk_I0 ?_
  refine j_bipush (pc := 42) (v := 12) C dX5_copyFrom_42 jk_B12 ?_
  refine j_copyi (pc := 44) (q0 := 6) (q1 := 2) (ws2 := wd_X5_copyFrom G a_t a_t_gains a_t_lawfulWays a_t_rests a_p1 a_p1_gains a_p1_lawfulWays a_p1_rests t_restCount t_lawfulGain (va_cpy p1_gains t_gains (0 : Int32).toNatClampNeg (0 : Int32).toNatClampNeg (1024 : Int32).toNatClampNeg) (va_cpy p1_lawfulWays t_lawfulWays (0 : Int32).toNatClampNeg (0 : Int32).toNatClampNeg (12 : Int32).toNatClampNeg) (va_cpy p1_rests t_rests (0 : Int32).toNatClampNeg (0 : Int32).toNatClampNeg (1024 : Int32).toNatClampNeg) p1_restCount p1_lawfulGain p1_gains p1_lawfulWays p1_rests) C dX5_copyFrom_44 (List.mem_of_getElem? (i := 2) rfl) (List.mem_of_getElem? (i := 3) rfl) (List.mem_of_getElem? (i := 4) rfl) (List.mem_of_getElem? (i := 5) rfl) rfl rfl (by decide) (by decide) (by decide) (by decide) (by decide) (by decide) (Nat.le_of_ble_eq_true rfl) rfl ?_
  refine j_aload_n (pc := 47) C dX5_copyFrom_47 rfl 0 rfl ?_
  refine j_aload_n (pc := 48) C dX5_copyFrom_48 rfl 1 rfl ?_
  refine j_get (pc := 49) (q0 := 4) (ci := 5) (kf := 2) C dX5_copyFrom_49 in_X5_copyFrom_X5 rfl (by decide) fl_X5_copyFrom_18 rfl rfl ?_
  refine j_put (pc := 52) (q0 := 0) (ci := 5) (kf := 2) (ws2 := wd_X5_copyFrom G a_t a_t_gains a_t_lawfulWays a_t_rests a_p1 a_p1_gains a_p1_lawfulWays a_p1_rests p1_restCount t_lawfulGain (va_cpy p1_gains t_gains (0 : Int32).toNatClampNeg (0 : Int32).toNatClampNeg (1024 : Int32).toNatClampNeg) (va_cpy p1_lawfulWays t_lawfulWays (0 : Int32).toNatClampNeg (0 : Int32).toNatClampNeg (12 : Int32).toNatClampNeg) (va_cpy p1_rests t_rests (0 : Int32).toNatClampNeg (0 : Int32).toNatClampNeg (1024 : Int32).toNatClampNeg) p1_restCount p1_lawfulGain p1_gains p1_lawfulWays p1_rests) C dX5_copyFrom_52 in_X5_copyFrom_X5 tyX5 tyX5_ok nmX5 rfl (by decide) fl_X5_copyFrom_18 rfl rfl rfl rfl (Nat.le_of_ble_eq_true rfl) rfl ?_
  refine j_aload_n (pc := 55) C dX5_copyFrom_55 rfl 0 rfl ?_
  refine j_aload_n (pc := 56) C dX5_copyFrom_56 rfl 1 rfl ?_
  refine j_get (pc := 57) (q0 := 4) (ci := 5) (kf := 4) C dX5_copyFrom_57 in_X5_copyFrom_X5 rfl (by decide) fl_X5_copyFrom_25 rfl rfl ?_
  refine j_put (pc := 60) (q0 := 0) (ci := 5) (kf := 4) (ws2 := wd_X5_copyFrom G a_t a_t_gains a_t_lawfulWays a_t_rests a_p1 a_p1_gains a_p1_lawfulWays a_p1_rests p1_restCount p1_lawfulGain (va_cpy p1_gains t_gains (0 : Int32).toNatClampNeg (0 : Int32).toNatClampNeg (1024 : Int32).toNatClampNeg) (va_cpy p1_lawfulWays t_lawfulWays (0 : Int32).toNatClampNeg (0 : Int32).toNatClampNeg (12 : Int32).toNatClampNeg) (va_cpy p1_rests t_rests (0 : Int32).toNatClampNeg (0 : Int32).toNatClampNeg (1024 : Int32).toNatClampNeg) p1_restCount p1_lawfulGain p1_gains p1_lawfulWays p1_rests) C dX5_copyFrom_60 in_X5_copyFrom_X5 tyX5 tyX5_ok nmX5 rfl (by decide) fl_X5_copyFrom_25 rfl rfl rfl rfl (Nat.le_of_ble_eq_true rfl) rfl ?_
  obtain rfl := Option.some.inj hd
  exact j_vret (pc := 63) C hE dX5_copyFrom_63 rfl rfl
/-! ##### LendTown$Town.clear()V -/
abbrev rm_X10_clear : Room := { frames := 2, cells := 0, slots := 0, locals := 43 }
theorem jy_X10_clear : jY yX10_clear wsX10_clear rm_X10_clear cX10_clear 1 none 0 := ⟨⟨_, rfl⟩, ⟨rfl, rfl⟩, by decide, by decide, by decide +kernel⟩
theorem in_X10_clear_X10 : ∀ w ∈ u_ws RX10 TX10 17, w ∈ wsX10_clear := fun w h => List.mem_cons_of_mem _ (List.mem_append_left _ (List.mem_append_right _ (h)))
theorem fl_X10_clear_9 : Cond.fieldLink RX10 9 "LendTown$Town" "persons" "I" ∈ wsX10_clear := List.mem_of_getElem? (i := 1) rfl
theorem fl_X10_clear_15 : Cond.fieldLink RX10 15 "LendTown$Town" "deals" "I" ∈ wsX10_clear := List.mem_of_getElem? (i := 2) rfl
theorem fl_X10_clear_18 : Cond.fieldLink RX10 18 "LendTown$Town" "lawYears" "I" ∈ wsX10_clear := List.mem_of_getElem? (i := 3) rfl
theorem fl_X10_clear_21 : Cond.fieldLink RX10 21 "LendTown$Town" "toldParts" "I" ∈ wsX10_clear := List.mem_of_getElem? (i := 4) rfl
theorem fl_X10_clear_65 : Cond.fieldLink RX10 65 "LendTown$Town" "memo" "LLendTown$Memo;" ∈ wsX10_clear := List.mem_of_getElem? (i := 5) rfl
def wd_X10_clear (G : jG) (a_t : Nat) (a_t_memo : Nat) (a_t_memo_gains : Nat) (t_persons : Int32) (t_deals : Int32) (t_lawYears : Int32) (t_toldParts : Int32) (a_t_personNames : Nat) (a_t_born : Nat) (a_t_dies : Nat) (a_t_limit : Nat) (a_t_dealNames : Nat) (a_t_lender : Nat) (a_t_borrower : Nat) (a_t_year : Nat) (a_t_lenderGain : Nat) (a_t_borrowerGain : Nat) (a_t_either : Nat) (a_t_byYear : Nat) (a_t_memo_rests : Nat) (t_memo_restCount : Int32) (a_t_memo_lawfulWays : Nat) (t_memo_lawfulGain : Int32) (t_memo_gains : Nat → Int32) : va_W := [(a_t, .inr (10, [.int t_persons, .int t_deals, .int t_lawYears, .int t_toldParts, .ref a_t_personNames, .ref a_t_born, .ref a_t_dies, .ref a_t_limit, .ref a_t_dealNames, .ref a_t_lender, .ref a_t_borrower, .ref a_t_year, .ref a_t_lenderGain, .ref a_t_borrowerGain, .ref a_t_either, .ref a_t_byYear, .ref a_t_memo])), (a_t_memo, .inr (5, [.ref a_t_memo_gains, .ref a_t_memo_rests, .int t_memo_restCount, .ref a_t_memo_lawfulWays, .int t_memo_lawfulGain])), (a_t_memo_gains, .inl (G.2.2.1, 1024, .inl t_memo_gains))]
set_option maxHeartbeats 8000000 in
set_option maxRecDepth 100000 in
theorem ct_X10_clear (l : Launch) (G : jG) (a_t : Nat) (a_t_memo : Nat) (a_t_memo_gains : Nat) (t_persons : Int32) (t_deals : Int32) (t_lawYears : Int32) (t_toldParts : Int32) (a_t_personNames : Nat) (a_t_born : Nat) (a_t_dies : Nat) (a_t_limit : Nat) (a_t_dealNames : Nat) (a_t_lender : Nat) (a_t_borrower : Nat) (a_t_year : Nat) (a_t_lenderGain : Nat) (a_t_borrowerGain : Nat) (a_t_either : Nat) (a_t_byYear : Nat) (a_t_memo_rests : Nat) (t_memo_restCount : Int32) (a_t_memo_lawfulWays : Nat) (t_memo_lawfulGain : Int32) (t_memo_gains : Nat → Int32)  (r : Int32 × Int32 × Int32 × Int32 × (Nat → Int32) × Int32 × Int32) (hd : dn_X10_clear t_memo_gains = some r) : jM l G yX10_clear wsX10_clear rm_X10_clear [.ref a_t] (wd_X10_clear G a_t a_t_memo a_t_memo_gains t_persons t_deals t_lawYears t_toldParts a_t_personNames a_t_born a_t_dies a_t_limit a_t_dealNames a_t_lender a_t_borrower a_t_year a_t_lenderGain a_t_borrowerGain a_t_either a_t_byYear a_t_memo_rests t_memo_restCount a_t_memo_lawfulWays t_memo_lawfulGain t_memo_gains) none (wd_X10_clear G a_t a_t_memo a_t_memo_gains r.1 r.2.1 r.2.2.1 r.2.2.2.1 a_t_personNames a_t_born a_t_dies a_t_limit a_t_dealNames a_t_lender a_t_borrower a_t_year a_t_lenderGain a_t_borrowerGain a_t_either a_t_byYear a_t_memo_rests r.2.2.2.2.2.1 a_t_memo_lawfulWays r.2.2.2.2.2.2 r.2.2.2.2.1) := by
  refine jM_of (own := RX10) (by decide) rfl rfl rfl (Nat.le_of_ble_eq_true rfl) (lv0 := [(0, .ref a_t)]) rfl (fun X C hE => ?_)
  unfold dn_X10_clear at hd
  refine j_aload_n (pc := 0) C dX10_clear_0 rfl 0 rfl ?_
  refine j_iconst (pc := 1) (v := 0) C dX10_clear_1 jk_I0 ?_
  refine j_put (pc := 2) (q0 := 0) (ci := 10) (kf := 0) (ws2 := wd_X10_clear G a_t a_t_memo a_t_memo_gains 0 t_deals t_lawYears t_toldParts a_t_personNames a_t_born a_t_dies a_t_limit a_t_dealNames a_t_lender a_t_borrower a_t_year a_t_lenderGain a_t_borrowerGain a_t_either a_t_byYear a_t_memo_rests t_memo_restCount a_t_memo_lawfulWays t_memo_lawfulGain t_memo_gains) C dX10_clear_2 in_X10_clear_X10 tyX10 tyX10_ok nmX10 rfl (by decide) fl_X10_clear_9 rfl rfl rfl rfl (Nat.le_of_ble_eq_true rfl) rfl ?_
  refine j_aload_n (pc := 5) C dX10_clear_5 rfl 0 rfl ?_
  refine j_iconst (pc := 6) (v := 0) C dX10_clear_6 jk_I0 ?_
  refine j_put (pc := 7) (q0 := 0) (ci := 10) (kf := 1) (ws2 := wd_X10_clear G a_t a_t_memo a_t_memo_gains 0 0 t_lawYears t_toldParts a_t_personNames a_t_born a_t_dies a_t_limit a_t_dealNames a_t_lender a_t_borrower a_t_year a_t_lenderGain a_t_borrowerGain a_t_either a_t_byYear a_t_memo_rests t_memo_restCount a_t_memo_lawfulWays t_memo_lawfulGain t_memo_gains) C dX10_clear_7 in_X10_clear_X10 tyX10 tyX10_ok nmX10 rfl (by decide) fl_X10_clear_15 rfl rfl rfl rfl (Nat.le_of_ble_eq_true rfl) rfl ?_
  refine j_aload_n (pc := 10) C dX10_clear_10 rfl 0 rfl ?_
  refine j_iconst (pc := 11) (v := 0) C dX10_clear_11 jk_I0 ?_
  refine j_put (pc := 12) (q0 := 0) (ci := 10) (kf := 2) (ws2 := wd_X10_clear G a_t a_t_memo a_t_memo_gains 0 0 0 t_toldParts a_t_personNames a_t_born a_t_dies a_t_limit a_t_dealNames a_t_lender a_t_borrower a_t_year a_t_lenderGain a_t_borrowerGain a_t_either a_t_byYear a_t_memo_rests t_memo_restCount a_t_memo_lawfulWays t_memo_lawfulGain t_memo_gains) C dX10_clear_12 in_X10_clear_X10 tyX10 tyX10_ok nmX10 rfl (by decide) fl_X10_clear_18 rfl rfl rfl rfl (Nat.le_of_ble_eq_true rfl) rfl ?_
  refine j_aload_n (pc := 15) C dX10_clear_15 rfl 0 rfl ?_
  refine j_iconst (pc := 16) (v := 0) C dX10_clear_16 jk_I0 ?_
  refine j_put (pc := 17) (q0 := 0) (ci := 10) (kf := 3) (ws2 := wd_X10_clear G a_t a_t_memo a_t_memo_gains 0 0 0 0 a_t_personNames a_t_born a_t_dies a_t_limit a_t_dealNames a_t_lender a_t_borrower a_t_year a_t_lenderGain a_t_borrowerGain a_t_either a_t_byYear a_t_memo_rests t_memo_restCount a_t_memo_lawfulWays t_memo_lawfulGain t_memo_gains) C dX10_clear_17 in_X10_clear_X10 tyX10 tyX10_ok nmX10 rfl (by decide) fl_X10_clear_21 rfl rfl rfl rfl (Nat.le_of_ble_eq_true rfl) rfl ?_
  refine j_aload_n (pc := 20) C dX10_clear_20 rfl 0 rfl ?_
  refine j_get (pc := 21) (q0 := 0) (ci := 10) (kf := 16) C dX10_clear_21 in_X10_clear_X10 rfl (by decide) fl_X10_clear_65 rfl rfl ?_
  obtain ⟨q1, eq1, hd⟩ := ob_bind hd
  refine j_callV (pc := 24) (q0 := 1) (ci := 5) (As := []) (rest := []) (st2 := []) (ws2 := wd_X10_clear G a_t a_t_memo a_t_memo_gains 0 0 0 0 a_t_personNames a_t_born a_t_dies a_t_limit a_t_dealNames a_t_lender a_t_borrower a_t_year a_t_lenderGain a_t_borrowerGain a_t_either a_t_byYear a_t_memo_rests q1.2.1 a_t_memo_lawfulWays q1.2.2 q1.1) C (ct_X5_forget l G a_t_memo a_t_memo_gains a_t_memo_rests t_memo_restCount a_t_memo_lawfulWays t_memo_lawfulGain t_memo_gains q1 eq1) jy_X5_forget dX10_clear_24 gX10_clear_X5_forget rfl rfl (by decide) ⟨Nat.zero_le _, Nat.zero_le _⟩ [1, 2] rfl rfl (jpt_eq rfl rfl rfl) rfl rfl rfl (Nat.le_of_ble_eq_true rfl) rfl ?_
  obtain rfl := Option.some.inj hd
  exact j_vret (pc := 27) C hE dX10_clear_27 rfl rfl
/-! ##### LendTown$Town.orderByYear()V -/
abbrev rm_X10_orderByYear : Room := { frames := 0, cells := 0, slots := 0, locals := 0 }
theorem jy_X10_orderByYear : jY yX10_orderByYear wsX10_orderByYear rm_X10_orderByYear cX10_orderByYear 3 none 0 := ⟨⟨_, rfl⟩, ⟨rfl, rfl⟩, by decide, by decide, by decide +kernel⟩
theorem in_X10_orderByYear_X10 : ∀ w ∈ u_ws RX10 TX10 17, w ∈ wsX10_orderByYear := fun w h => List.mem_cons_of_mem _ (List.mem_append_right _ (h))
theorem fl_X10_orderByYear_15 : Cond.fieldLink RX10 15 "LendTown$Town" "deals" "I" ∈ wsX10_orderByYear := List.mem_of_getElem? (i := 1) rfl
theorem fl_X10_orderByYear_59 : Cond.fieldLink RX10 59 "LendTown$Town" "byYear" "[I" ∈ wsX10_orderByYear := List.mem_of_getElem? (i := 3) rfl
theorem fl_X10_orderByYear_47 : Cond.fieldLink RX10 47 "LendTown$Town" "year" "[I" ∈ wsX10_orderByYear := List.mem_of_getElem? (i := 2) rfl
def wd_X10_orderByYear (G : jG) (a_t : Nat) (a_t_byYear : Nat) (a_t_year : Nat) (t_persons : Int32) (t_deals : Int32) (t_lawYears : Int32) (t_toldParts : Int32) (a_t_personNames : Nat) (a_t_born : Nat) (a_t_dies : Nat) (a_t_limit : Nat) (a_t_dealNames : Nat) (a_t_lender : Nat) (a_t_borrower : Nat) (a_t_lenderGain : Nat) (a_t_borrowerGain : Nat) (a_t_either : Nat) (a_t_memo : Nat) (t_byYear : Nat → Int32) (t_year : Nat → Int32) : va_W := [(a_t, .inr (10, [.int t_persons, .int t_deals, .int t_lawYears, .int t_toldParts, .ref a_t_personNames, .ref a_t_born, .ref a_t_dies, .ref a_t_limit, .ref a_t_dealNames, .ref a_t_lender, .ref a_t_borrower, .ref a_t_year, .ref a_t_lenderGain, .ref a_t_borrowerGain, .ref a_t_either, .ref a_t_byYear, .ref a_t_memo])), (a_t_byYear, .inl (G.2.2.1, 30, .inl t_byYear)), (a_t_year, .inl (G.2.2.1, 30, .inl t_year))]
set_option maxHeartbeats 8000000 in
set_option maxRecDepth 100000 in
theorem lb_X10_orderByYear_0 (l : Launch) (G : jG) (a_t : Nat) (a_t_byYear : Nat) (a_t_year : Nat) (t_persons : Int32) (t_deals : Int32) (t_lawYears : Int32) (t_toldParts : Int32) (a_t_personNames : Nat) (a_t_born : Nat) (a_t_dies : Nat) (a_t_limit : Nat) (a_t_dealNames : Nat) (a_t_lender : Nat) (a_t_borrower : Nat) (a_t_lenderGain : Nat) (a_t_borrowerGain : Nat) (a_t_either : Nat) (a_t_memo : Nat) (t_year : Nat → Int32)  (X : jX) (C : jC X l G 3 rm_X10_orderByYear cX10_orderByYear RX10 wsX10_orderByYear) (r : (Nat → Int32)) (hE : jE X none none (wd_X10_orderByYear G a_t a_t_byYear a_t_year t_persons t_deals t_lawYears t_toldParts a_t_personNames a_t_born a_t_dies a_t_limit a_t_dealNames a_t_lender a_t_borrower a_t_lenderGain a_t_borrowerGain a_t_either a_t_memo r t_year)) (n : Nat) (IH1 : ∀ (v1 : Int32) (v2 : Int32) (t_byYear : Nat → Int32), lpN (st_X10_orderByYear t_deals t_year) n (.inr ((v1, v2, t_byYear))) = some r → J X 0 0 (wd_X10_orderByYear G a_t a_t_byYear a_t_year t_persons t_deals t_lawYears t_toldParts a_t_personNames a_t_born a_t_dies a_t_limit a_t_dealNames a_t_lender a_t_borrower a_t_lenderGain a_t_borrowerGain a_t_either a_t_memo t_byYear t_year) [(0, .ref a_t), (1, .int v1), (2, .int v2)] 12 []) (v1 : Int32) (t_byYear : Nat → Int32) (hd : lpR (st_X10_orderByYear t_deals t_year) n (bd_X10_orderByYear_0 t_deals t_year v1 t_byYear) = some r) : J X 0 0 (wd_X10_orderByYear G a_t a_t_byYear a_t_year t_persons t_deals t_lawYears t_toldParts a_t_personNames a_t_born a_t_dies a_t_limit a_t_dealNames a_t_lender a_t_borrower a_t_lenderGain a_t_borrowerGain a_t_either a_t_memo t_byYear t_year) [(0, .ref a_t), (1, .int v1)] 2 [] := by
  unfold bd_X10_orderByYear_0 at hd
  refine j_iload_n (pc := 2) C dX10_orderByYear_2 rfl 1 rfl ?_
  refine j_aload_n (pc := 3) C dX10_orderByYear_3 rfl 0 rfl ?_
  refine j_get (pc := 4) (q0 := 0) (ci := 10) (kf := 1) C dX10_orderByYear_4 in_X10_orderByYear_X10 rfl (by decide) fl_X10_orderByYear_15 rfl rfl ?_
  refine j_icmp_ge (pc := 7) (tgt := 71) C dX10_orderByYear_7 (by decide) (fun c1 => ?_) (fun c1 => ?_)
  · have hd := lp_pos c1 hd
    obtain rfl := Option.some.inj hd
    exact j_vret (pc := 71) C hE dX10_orderByYear_71 rfl rfl
  · have hd := lp_neg c1 hd
    refine j_iload_n (pc := 10) C dX10_orderByYear_10 rfl 1 rfl ?_
    refine j_istore_n (pc := 11) (lv2 := [(0, .ref a_t), (1, .int v1), (2, .int v1)]) C dX10_orderByYear_11 rfl (by decide) [1, 2, 0] rfl ?_
    refine j_sub (lv2 := [(0, .ref a_t), (1, .int v1), (2, .int v1)]) [0, 1, 2] rfl ?_
    exact IH1 v1 v1 t_byYear hd
set_option maxHeartbeats 8000000 in
set_option maxRecDepth 100000 in
theorem lb_X10_orderByYear_1 (l : Launch) (G : jG) (a_t : Nat) (a_t_byYear : Nat) (a_t_year : Nat) (t_persons : Int32) (t_deals : Int32) (t_lawYears : Int32) (t_toldParts : Int32) (a_t_personNames : Nat) (a_t_born : Nat) (a_t_dies : Nat) (a_t_limit : Nat) (a_t_dealNames : Nat) (a_t_lender : Nat) (a_t_borrower : Nat) (a_t_lenderGain : Nat) (a_t_borrowerGain : Nat) (a_t_either : Nat) (a_t_memo : Nat) (t_year : Nat → Int32)  (X : jX) (C : jC X l G 3 rm_X10_orderByYear cX10_orderByYear RX10 wsX10_orderByYear) (r : (Nat → Int32)) (hE : jE X none none (wd_X10_orderByYear G a_t a_t_byYear a_t_year t_persons t_deals t_lawYears t_toldParts a_t_personNames a_t_born a_t_dies a_t_limit a_t_dealNames a_t_lender a_t_borrower a_t_lenderGain a_t_borrowerGain a_t_either a_t_memo r t_year)) (n : Nat) (IH0 : ∀ (v1 : Int32) (t_byYear : Nat → Int32), lpN (st_X10_orderByYear t_deals t_year) n (.inl (v1, t_byYear)) = some r → J X 0 0 (wd_X10_orderByYear G a_t a_t_byYear a_t_year t_persons t_deals t_lawYears t_toldParts a_t_personNames a_t_born a_t_dies a_t_limit a_t_dealNames a_t_lender a_t_borrower a_t_lenderGain a_t_borrowerGain a_t_either a_t_memo t_byYear t_year) [(0, .ref a_t), (1, .int v1)] 2 []) (IH1 : ∀ (v1 : Int32) (v2 : Int32) (t_byYear : Nat → Int32), lpN (st_X10_orderByYear t_deals t_year) n (.inr ((v1, v2, t_byYear))) = some r → J X 0 0 (wd_X10_orderByYear G a_t a_t_byYear a_t_year t_persons t_deals t_lawYears t_toldParts a_t_personNames a_t_born a_t_dies a_t_limit a_t_dealNames a_t_lender a_t_borrower a_t_lenderGain a_t_borrowerGain a_t_either a_t_memo t_byYear t_year) [(0, .ref a_t), (1, .int v1), (2, .int v2)] 12 []) (v1 : Int32) (v2 : Int32) (t_byYear : Nat → Int32) (hd : lpR (st_X10_orderByYear t_deals t_year) n (bd_X10_orderByYear_1 t_deals t_year v1 v2 t_byYear) = some r) : J X 0 0 (wd_X10_orderByYear G a_t a_t_byYear a_t_year t_persons t_deals t_lawYears t_toldParts a_t_personNames a_t_born a_t_dies a_t_limit a_t_dealNames a_t_lender a_t_borrower a_t_lenderGain a_t_borrowerGain a_t_either a_t_memo t_byYear t_year) [(0, .ref a_t), (1, .int v1), (2, .int v2)] 12 [] := by
  unfold bd_X10_orderByYear_1 at hd
  refine j_iload_n (pc := 12) C dX10_orderByYear_12 rfl 2 rfl ?_
  refine j_if_le (pc := 13) (tgt := 58) C dX10_orderByYear_13 (by decide) (fun c2 => ?_) (fun c2 => ?_)
  · have hd := lp_pos c2 hd
    refine j_aload_n (pc := 58) C dX10_orderByYear_58 rfl 0 rfl ?_
    refine j_get (pc := 59) (q0 := 0) (ci := 10) (kf := 15) C dX10_orderByYear_59 in_X10_orderByYear_X10 rfl (by decide) fl_X10_orderByYear_59 rfl rfl ?_
    refine j_iload_n (pc := 62) C dX10_orderByYear_62 rfl 2 rfl ?_
    refine j_iload_n (pc := 63) C dX10_orderByYear_63 rfl 1 rfl ?_
    obtain ⟨h3, hd⟩ := lp_chk hd
    refine j_iast (pc := 64) (q0 := 1) (ws2 := wd_X10_orderByYear G a_t a_t_byYear a_t_year t_persons t_deals t_lawYears t_toldParts a_t_personNames a_t_born a_t_dies a_t_limit a_t_dealNames a_t_lender a_t_borrower a_t_lenderGain a_t_borrowerGain a_t_either a_t_memo (upd t_byYear (v2).toNatClampNeg v1) t_year) C dX10_orderByYear_64 rfl h3 rfl ?_
    refine j_iinc (pc := 65) (lv2 := [(0, .ref a_t), (1, .int (v1 + 1)), (2, .int v2)]) C dX10_orderByYear_65 jk_I1 (by decide) 1 rfl [1, 0, 2] rfl ?_
    refine j_goto (pc := 68) (tgt := 2) C dX10_orderByYear_68 (by decide) ?_
    refine j_sub (lv2 := [(0, .ref a_t), (1, .int (v1 + 1))]) [0, 1] rfl ?_
    exact IH0 (v1 + 1) (upd t_byYear (v2).toNatClampNeg v1) hd
  · have hd := lp_neg c2 hd
    refine j_aload_n (pc := 16) C dX10_orderByYear_16 rfl 0 rfl ?_
    refine j_get (pc := 17) (q0 := 0) (ci := 10) (kf := 11) C dX10_orderByYear_17 in_X10_orderByYear_X10 rfl (by decide) fl_X10_orderByYear_47 rfl rfl ?_
    refine j_aload_n (pc := 20) C dX10_orderByYear_20 rfl 0 rfl ?_
    refine j_get (pc := 21) (q0 := 0) (ci := 10) (kf := 15) C dX10_orderByYear_21 in_X10_orderByYear_X10 rfl (by decide) fl_X10_orderByYear_59 rfl rfl ?_
    refine j_iload_n (pc := 24) C dX10_orderByYear_24 rfl 2 rfl ?_
    refine j_iconst (pc := 25) (v := 1) C dX10_orderByYear_25 jk_I1 ?_
    refine j_isub (pc := 26) C dX10_orderByYear_26 ?_
    obtain ⟨h4, hd⟩ := lp_chk hd
    refine j_iald (pc := 27) (q0 := 1) C dX10_orderByYear_27 rfl h4 ?_
    obtain ⟨h5, hd⟩ := lp_chk hd
    refine j_iald (pc := 28) (q0 := 2) C dX10_orderByYear_28 rfl h5 ?_
    refine j_aload_n (pc := 29) C dX10_orderByYear_29 rfl 0 rfl ?_
    refine j_get (pc := 30) (q0 := 0) (ci := 10) (kf := 11) C dX10_orderByYear_30 in_X10_orderByYear_X10 rfl (by decide) fl_X10_orderByYear_47 rfl rfl ?_
    refine j_iload_n (pc := 33) C dX10_orderByYear_33 rfl 1 rfl ?_
    obtain ⟨h6, hd⟩ := lp_chk hd
    refine j_iald (pc := 34) (q0 := 2) C dX10_orderByYear_34 rfl h6 ?_
    refine j_icmp_le (pc := 35) (tgt := 58) C dX10_orderByYear_35 (by decide) (fun c7 => ?_) (fun c7 => ?_)
    · have hd := lp_pos c7 hd
      refine j_aload_n (pc := 58) C dX10_orderByYear_58 rfl 0 rfl ?_
      refine j_get (pc := 59) (q0 := 0) (ci := 10) (kf := 15) C dX10_orderByYear_59 in_X10_orderByYear_X10 rfl (by decide) fl_X10_orderByYear_59 rfl rfl ?_
      refine j_iload_n (pc := 62) C dX10_orderByYear_62 rfl 2 rfl ?_
      refine j_iload_n (pc := 63) C dX10_orderByYear_63 rfl 1 rfl ?_
      obtain ⟨h8, hd⟩ := lp_chk hd
      refine j_iast (pc := 64) (q0 := 1) (ws2 := wd_X10_orderByYear G a_t a_t_byYear a_t_year t_persons t_deals t_lawYears t_toldParts a_t_personNames a_t_born a_t_dies a_t_limit a_t_dealNames a_t_lender a_t_borrower a_t_lenderGain a_t_borrowerGain a_t_either a_t_memo (upd t_byYear (v2).toNatClampNeg v1) t_year) C dX10_orderByYear_64 rfl h8 rfl ?_
      refine j_iinc (pc := 65) (lv2 := [(0, .ref a_t), (1, .int (v1 + 1)), (2, .int v2)]) C dX10_orderByYear_65 jk_I1 (by decide) 1 rfl [1, 0, 2] rfl ?_
      refine j_goto (pc := 68) (tgt := 2) C dX10_orderByYear_68 (by decide) ?_
      refine j_sub (lv2 := [(0, .ref a_t), (1, .int (v1 + 1))]) [0, 1] rfl ?_
      exact IH0 (v1 + 1) (upd t_byYear (v2).toNatClampNeg v1) hd
    · have hd := lp_neg c7 hd
      refine j_aload_n (pc := 38) C dX10_orderByYear_38 rfl 0 rfl ?_
      refine j_get (pc := 39) (q0 := 0) (ci := 10) (kf := 15) C dX10_orderByYear_39 in_X10_orderByYear_X10 rfl (by decide) fl_X10_orderByYear_59 rfl rfl ?_
      refine j_iload_n (pc := 42) C dX10_orderByYear_42 rfl 2 rfl ?_
      refine j_aload_n (pc := 43) C dX10_orderByYear_43 rfl 0 rfl ?_
      refine j_get (pc := 44) (q0 := 0) (ci := 10) (kf := 15) C dX10_orderByYear_44 in_X10_orderByYear_X10 rfl (by decide) fl_X10_orderByYear_59 rfl rfl ?_
      refine j_iload_n (pc := 47) C dX10_orderByYear_47 rfl 2 rfl ?_
      refine j_iconst (pc := 48) (v := 1) C dX10_orderByYear_48 jk_I1 ?_
      refine j_isub (pc := 49) C dX10_orderByYear_49 ?_
      obtain ⟨h9, hd⟩ := lp_chk hd
      refine j_iald (pc := 50) (q0 := 1) C dX10_orderByYear_50 rfl h9 ?_
      obtain ⟨h10, hd⟩ := lp_chk hd
      refine j_iast (pc := 51) (q0 := 1) (ws2 := wd_X10_orderByYear G a_t a_t_byYear a_t_year t_persons t_deals t_lawYears t_toldParts a_t_personNames a_t_born a_t_dies a_t_limit a_t_dealNames a_t_lender a_t_borrower a_t_lenderGain a_t_borrowerGain a_t_either a_t_memo (upd t_byYear (v2).toNatClampNeg (t_byYear ((v2 - 1)).toNatClampNeg)) t_year) C dX10_orderByYear_51 rfl h10 rfl ?_
      refine j_iinc (pc := 52) (lv2 := [(0, .ref a_t), (1, .int v1), (2, .int (v2 + (-1)))]) C dX10_orderByYear_52 jk_Im1 (by decide) 2 rfl [1, 2, 0] rfl ?_
      refine j_goto (pc := 55) (tgt := 12) C dX10_orderByYear_55 (by decide) ?_
      refine j_sub (lv2 := [(0, .ref a_t), (1, .int v1), (2, .int (v2 + (-1)))]) [0, 1, 2] rfl ?_
      exact IH1 v1 (v2 + (-1)) (upd t_byYear (v2).toNatClampNeg (t_byYear ((v2 - 1)).toNatClampNeg)) hd
set_option maxHeartbeats 8000000 in
set_option maxRecDepth 100000 in
theorem la_X10_orderByYear (l : Launch) (G : jG) (a_t : Nat) (a_t_byYear : Nat) (a_t_year : Nat) (t_persons : Int32) (t_deals : Int32) (t_lawYears : Int32) (t_toldParts : Int32) (a_t_personNames : Nat) (a_t_born : Nat) (a_t_dies : Nat) (a_t_limit : Nat) (a_t_dealNames : Nat) (a_t_lender : Nat) (a_t_borrower : Nat) (a_t_lenderGain : Nat) (a_t_borrowerGain : Nat) (a_t_either : Nat) (a_t_memo : Nat) (t_year : Nat → Int32)  (X : jX) (C : jC X l G 3 rm_X10_orderByYear cX10_orderByYear RX10 wsX10_orderByYear) (r : (Nat → Int32)) (hE : jE X none none (wd_X10_orderByYear G a_t a_t_byYear a_t_year t_persons t_deals t_lawYears t_toldParts a_t_personNames a_t_born a_t_dies a_t_limit a_t_dealNames a_t_lender a_t_borrower a_t_lenderGain a_t_borrowerGain a_t_either a_t_memo r t_year)) (n : Nat) : (∀ (v1 : Int32) (t_byYear : Nat → Int32), lpN (st_X10_orderByYear t_deals t_year) n (.inl (v1, t_byYear)) = some r → J X 0 0 (wd_X10_orderByYear G a_t a_t_byYear a_t_year t_persons t_deals t_lawYears t_toldParts a_t_personNames a_t_born a_t_dies a_t_limit a_t_dealNames a_t_lender a_t_borrower a_t_lenderGain a_t_borrowerGain a_t_either a_t_memo t_byYear t_year) [(0, .ref a_t), (1, .int v1)] 2 []) ∧ (∀ (v1 : Int32) (v2 : Int32) (t_byYear : Nat → Int32), lpN (st_X10_orderByYear t_deals t_year) n (.inr ((v1, v2, t_byYear))) = some r → J X 0 0 (wd_X10_orderByYear G a_t a_t_byYear a_t_year t_persons t_deals t_lawYears t_toldParts a_t_personNames a_t_born a_t_dies a_t_limit a_t_dealNames a_t_lender a_t_borrower a_t_lenderGain a_t_borrowerGain a_t_either a_t_memo t_byYear t_year) [(0, .ref a_t), (1, .int v1), (2, .int v2)] 12 []) := by
  induction n with
  | zero => exact ⟨(fun v1 t_byYear h => by cases h), (fun v1 v2 t_byYear h => by cases h)⟩
  | succ n ih => exact ⟨(fun v1 t_byYear h => lb_X10_orderByYear_0 l G a_t a_t_byYear a_t_year t_persons t_deals t_lawYears t_toldParts a_t_personNames a_t_born a_t_dies a_t_limit a_t_dealNames a_t_lender a_t_borrower a_t_lenderGain a_t_borrowerGain a_t_either a_t_memo t_year X C r hE n (ih.2) v1 t_byYear (by rw [lpN_succ] at h; exact h)), (fun v1 v2 t_byYear h => lb_X10_orderByYear_1 l G a_t a_t_byYear a_t_year t_persons t_deals t_lawYears t_toldParts a_t_personNames a_t_born a_t_dies a_t_limit a_t_dealNames a_t_lender a_t_borrower a_t_lenderGain a_t_borrowerGain a_t_either a_t_memo t_year X C r hE n (ih.1) (ih.2) v1 v2 t_byYear (by rw [lpN_succ] at h; exact h))⟩
set_option maxHeartbeats 8000000 in
set_option maxRecDepth 100000 in
theorem ct_X10_orderByYear (l : Launch) (G : jG) (a_t : Nat) (a_t_byYear : Nat) (a_t_year : Nat) (t_persons : Int32) (t_deals : Int32) (t_lawYears : Int32) (t_toldParts : Int32) (a_t_personNames : Nat) (a_t_born : Nat) (a_t_dies : Nat) (a_t_limit : Nat) (a_t_dealNames : Nat) (a_t_lender : Nat) (a_t_borrower : Nat) (a_t_lenderGain : Nat) (a_t_borrowerGain : Nat) (a_t_either : Nat) (a_t_memo : Nat) (t_byYear : Nat → Int32) (t_year : Nat → Int32)  (r : (Nat → Int32)) (hd : dn_X10_orderByYear t_deals t_byYear t_year = some r) : jM l G yX10_orderByYear wsX10_orderByYear rm_X10_orderByYear [.ref a_t] (wd_X10_orderByYear G a_t a_t_byYear a_t_year t_persons t_deals t_lawYears t_toldParts a_t_personNames a_t_born a_t_dies a_t_limit a_t_dealNames a_t_lender a_t_borrower a_t_lenderGain a_t_borrowerGain a_t_either a_t_memo t_byYear t_year) none (wd_X10_orderByYear G a_t a_t_byYear a_t_year t_persons t_deals t_lawYears t_toldParts a_t_personNames a_t_born a_t_dies a_t_limit a_t_dealNames a_t_lender a_t_borrower a_t_lenderGain a_t_borrowerGain a_t_either a_t_memo r t_year) := by
  refine jM_of (own := RX10) (by decide) rfl rfl rfl (Nat.le_of_ble_eq_true rfl) (lv0 := [(0, .ref a_t)]) rfl (fun X C hE => ?_)
  unfold dn_X10_orderByYear at hd
  refine j_iconst (pc := 0) (v := 0) C dX10_orderByYear_0 jk_I0 ?_
  refine j_istore_n (pc := 1) (lv2 := [(0, .ref a_t), (1, .int 0)]) C dX10_orderByYear_1 rfl (by decide) [1, 0] rfl ?_
  refine j_sub (lv2 := [(0, .ref a_t), (1, .int 0)]) [0, 1] rfl ?_
  obtain ⟨n, hn⟩ := lpC_ex hd
  exact (la_X10_orderByYear l G a_t a_t_byYear a_t_year t_persons t_deals t_lawYears t_toldParts a_t_personNames a_t_born a_t_dies a_t_limit a_t_dealNames a_t_lender a_t_borrower a_t_lenderGain a_t_borrowerGain a_t_either a_t_memo t_year X C r hE n).1 0 t_byYear hn
/-! ##### LendTown$Town.findPerson(J)I -/
abbrev rm_X10_findPerson : Room := { frames := 0, cells := 0, slots := 0, locals := 0 }
theorem jy_X10_findPerson : jY yX10_findPerson wsX10_findPerson rm_X10_findPerson cX10_findPerson 4 (some .int) 1 := ⟨⟨_, rfl⟩, ⟨rfl, rfl⟩, by decide, by decide, by decide +kernel⟩
theorem in_X10_findPerson_X10 : ∀ w ∈ u_ws RX10 TX10 17, w ∈ wsX10_findPerson := fun w h => List.mem_cons_of_mem _ (List.mem_append_right _ (h))
theorem fl_X10_findPerson_9 : Cond.fieldLink RX10 9 "LendTown$Town" "persons" "I" ∈ wsX10_findPerson := List.mem_of_getElem? (i := 1) rfl
theorem fl_X10_findPerson_24 : Cond.fieldLink RX10 24 "LendTown$Town" "personNames" "[J" ∈ wsX10_findPerson := List.mem_of_getElem? (i := 2) rfl
def wd_X10_findPerson (G : jG) (a_t : Nat) (a_t_personNames : Nat) (t_persons : Int32) (t_deals : Int32) (t_lawYears : Int32) (t_toldParts : Int32) (a_t_born : Nat) (a_t_dies : Nat) (a_t_limit : Nat) (a_t_dealNames : Nat) (a_t_lender : Nat) (a_t_borrower : Nat) (a_t_year : Nat) (a_t_lenderGain : Nat) (a_t_borrowerGain : Nat) (a_t_either : Nat) (a_t_byYear : Nat) (a_t_memo : Nat) (t_personNames : Nat → Int64) : va_W := [(a_t, .inr (10, [.int t_persons, .int t_deals, .int t_lawYears, .int t_toldParts, .ref a_t_personNames, .ref a_t_born, .ref a_t_dies, .ref a_t_limit, .ref a_t_dealNames, .ref a_t_lender, .ref a_t_borrower, .ref a_t_year, .ref a_t_lenderGain, .ref a_t_borrowerGain, .ref a_t_either, .ref a_t_byYear, .ref a_t_memo])), (a_t_personNames, .inl (G.2.2.2.1, 10, .inr (.inl t_personNames)))]
set_option maxHeartbeats 8000000 in
set_option maxRecDepth 100000 in
theorem lb_X10_findPerson_0 (l : Launch) (G : jG) (a_t : Nat) (a_t_personNames : Nat) (t_persons : Int32) (t_deals : Int32) (t_lawYears : Int32) (t_toldParts : Int32) (a_t_born : Nat) (a_t_dies : Nat) (a_t_limit : Nat) (a_t_dealNames : Nat) (a_t_lender : Nat) (a_t_borrower : Nat) (a_t_year : Nat) (a_t_lenderGain : Nat) (a_t_borrowerGain : Nat) (a_t_either : Nat) (a_t_byYear : Nat) (a_t_memo : Nat) (t_personNames : Nat → Int64) (p1 : Int64) (X : jX) (C : jC X l G 4 rm_X10_findPerson cX10_findPerson RX10 wsX10_findPerson) (r : Int32) (hE : jE X (some .int) (some (.int r)) (wd_X10_findPerson G a_t a_t_personNames t_persons t_deals t_lawYears t_toldParts a_t_born a_t_dies a_t_limit a_t_dealNames a_t_lender a_t_borrower a_t_year a_t_lenderGain a_t_borrowerGain a_t_either a_t_byYear a_t_memo t_personNames)) (n : Nat) (IH0 : ∀ (v3 : Int32), lpN (st_X10_findPerson t_persons t_personNames p1) n (v3) = some r → J X 0 0 (wd_X10_findPerson G a_t a_t_personNames t_persons t_deals t_lawYears t_toldParts a_t_born a_t_dies a_t_limit a_t_dealNames a_t_lender a_t_borrower a_t_year a_t_lenderGain a_t_borrowerGain a_t_either a_t_byYear a_t_memo t_personNames) [(0, .ref a_t), (1, .long p1), (3, .int v3)] 2 []) (v3 : Int32) (hd : lpR (st_X10_findPerson t_persons t_personNames p1) n (bd_X10_findPerson_0 t_persons t_personNames p1 v3) = some r) : J X 0 0 (wd_X10_findPerson G a_t a_t_personNames t_persons t_deals t_lawYears t_toldParts a_t_born a_t_dies a_t_limit a_t_dealNames a_t_lender a_t_borrower a_t_year a_t_lenderGain a_t_borrowerGain a_t_either a_t_byYear a_t_memo t_personNames) [(0, .ref a_t), (1, .long p1), (3, .int v3)] 2 [] := by
  unfold bd_X10_findPerson_0 at hd
  refine j_iload_n (pc := 2) C dX10_findPerson_2 rfl 2 rfl ?_
  refine j_aload_n (pc := 3) C dX10_findPerson_3 rfl 0 rfl ?_
  refine j_get (pc := 4) (q0 := 0) (ci := 10) (kf := 0) C dX10_findPerson_4 in_X10_findPerson_X10 rfl (by decide) fl_X10_findPerson_9 rfl rfl ?_
  refine j_icmp_ge (pc := 7) (tgt := 29) C dX10_findPerson_7 (by decide) (fun c1 => ?_) (fun c1 => ?_)
  · have hd := lp_pos c1 hd
    refine j_iconst (pc := 29) (v := (-1)) C dX10_findPerson_29 jk_Im1 ?_
    obtain rfl := Option.some.inj hd
    exact j_iret (pc := 30) C hE dX10_findPerson_30 rfl rfl
  · have hd := lp_neg c1 hd
    refine j_aload_n (pc := 10) C dX10_findPerson_10 rfl 0 rfl ?_
    refine j_get (pc := 11) (q0 := 0) (ci := 10) (kf := 4) C dX10_findPerson_11 in_X10_findPerson_X10 rfl (by decide) fl_X10_findPerson_24 rfl rfl ?_
    refine j_iload_n (pc := 14) C dX10_findPerson_14 rfl 2 rfl ?_
    obtain ⟨h2, hd⟩ := lp_chk hd
    refine j_lald (pc := 15) (q0 := 1) C dX10_findPerson_15 rfl h2 ?_
    refine j_lload_n (pc := 16) C dX10_findPerson_16 rfl 1 rfl ?_
    refine j_lcmp (pc := 17) C dX10_findPerson_17 ?_
    refine j_iflc_ne (pc := 18) (tgt := 23) C dX10_findPerson_18 (by decide) (fun c3 => ?_) (fun c3 => ?_)
    · have hd := lp_neg c3 hd
      refine j_iinc (pc := 23) (lv2 := [(0, .ref a_t), (1, .long p1), (3, .int (v3 + 1))]) C dX10_findPerson_23 jk_I1 (by decide) 2 rfl [1, 2, 0] rfl ?_
      refine j_goto (pc := 26) (tgt := 2) C dX10_findPerson_26 (by decide) ?_
      refine j_sub (lv2 := [(0, .ref a_t), (1, .long p1), (3, .int (v3 + 1))]) [0, 1, 2] rfl ?_
      exact IH0 (v3 + 1) hd
    · have hd := lp_pos c3 hd
      refine j_iload_n (pc := 21) C dX10_findPerson_21 rfl 2 rfl ?_
      obtain rfl := Option.some.inj hd
      exact j_iret (pc := 22) C hE dX10_findPerson_22 rfl rfl
set_option maxHeartbeats 8000000 in
set_option maxRecDepth 100000 in
theorem la_X10_findPerson (l : Launch) (G : jG) (a_t : Nat) (a_t_personNames : Nat) (t_persons : Int32) (t_deals : Int32) (t_lawYears : Int32) (t_toldParts : Int32) (a_t_born : Nat) (a_t_dies : Nat) (a_t_limit : Nat) (a_t_dealNames : Nat) (a_t_lender : Nat) (a_t_borrower : Nat) (a_t_year : Nat) (a_t_lenderGain : Nat) (a_t_borrowerGain : Nat) (a_t_either : Nat) (a_t_byYear : Nat) (a_t_memo : Nat) (t_personNames : Nat → Int64) (p1 : Int64) (X : jX) (C : jC X l G 4 rm_X10_findPerson cX10_findPerson RX10 wsX10_findPerson) (r : Int32) (hE : jE X (some .int) (some (.int r)) (wd_X10_findPerson G a_t a_t_personNames t_persons t_deals t_lawYears t_toldParts a_t_born a_t_dies a_t_limit a_t_dealNames a_t_lender a_t_borrower a_t_year a_t_lenderGain a_t_borrowerGain a_t_either a_t_byYear a_t_memo t_personNames)) (n : Nat) : (∀ (v3 : Int32), lpN (st_X10_findPerson t_persons t_personNames p1) n (v3) = some r → J X 0 0 (wd_X10_findPerson G a_t a_t_personNames t_persons t_deals t_lawYears t_toldParts a_t_born a_t_dies a_t_limit a_t_dealNames a_t_lender a_t_borrower a_t_year a_t_lenderGain a_t_borrowerGain a_t_either a_t_byYear a_t_memo t_personNames) [(0, .ref a_t), (1, .long p1), (3, .int v3)] 2 []) := by
  induction n with
  | zero => exact (fun v3 h => by cases h)
  | succ n ih => exact (fun v3 h => lb_X10_findPerson_0 l G a_t a_t_personNames t_persons t_deals t_lawYears t_toldParts a_t_born a_t_dies a_t_limit a_t_dealNames a_t_lender a_t_borrower a_t_year a_t_lenderGain a_t_borrowerGain a_t_either a_t_byYear a_t_memo t_personNames p1 X C r hE n (ih) v3 (by rw [lpN_succ] at h; exact h))
set_option maxHeartbeats 8000000 in
set_option maxRecDepth 100000 in
theorem ct_X10_findPerson (l : Launch) (G : jG) (a_t : Nat) (a_t_personNames : Nat) (t_persons : Int32) (t_deals : Int32) (t_lawYears : Int32) (t_toldParts : Int32) (a_t_born : Nat) (a_t_dies : Nat) (a_t_limit : Nat) (a_t_dealNames : Nat) (a_t_lender : Nat) (a_t_borrower : Nat) (a_t_year : Nat) (a_t_lenderGain : Nat) (a_t_borrowerGain : Nat) (a_t_either : Nat) (a_t_byYear : Nat) (a_t_memo : Nat) (t_personNames : Nat → Int64) (p1 : Int64) (r : Int32) (hd : dn_X10_findPerson t_persons t_personNames p1 = some r) : jM l G yX10_findPerson wsX10_findPerson rm_X10_findPerson [.ref a_t, .long p1] (wd_X10_findPerson G a_t a_t_personNames t_persons t_deals t_lawYears t_toldParts a_t_born a_t_dies a_t_limit a_t_dealNames a_t_lender a_t_borrower a_t_year a_t_lenderGain a_t_borrowerGain a_t_either a_t_byYear a_t_memo t_personNames) (some (.int r)) (wd_X10_findPerson G a_t a_t_personNames t_persons t_deals t_lawYears t_toldParts a_t_born a_t_dies a_t_limit a_t_dealNames a_t_lender a_t_borrower a_t_year a_t_lenderGain a_t_borrowerGain a_t_either a_t_byYear a_t_memo t_personNames) := by
  refine jM_of (own := RX10) (by decide) rfl rfl rfl (Nat.le_of_ble_eq_true rfl) (lv0 := [(0, .ref a_t), (1, .long p1)]) rfl (fun X C hE => ?_)
  unfold dn_X10_findPerson at hd
  refine j_iconst (pc := 0) (v := 0) C dX10_findPerson_0 jk_I0 ?_
  refine j_istore_n (pc := 1) (lv2 := [(0, .ref a_t), (1, .long p1), (3, .int 0)]) C dX10_findPerson_1 rfl (by decide) [1, 2, 0] rfl ?_
  refine j_sub (lv2 := [(0, .ref a_t), (1, .long p1), (3, .int 0)]) [0, 1, 2] rfl ?_
  obtain ⟨n, hn⟩ := lpC_ex hd
  exact (la_X10_findPerson l G a_t a_t_personNames t_persons t_deals t_lawYears t_toldParts a_t_born a_t_dies a_t_limit a_t_dealNames a_t_lender a_t_borrower a_t_year a_t_lenderGain a_t_borrowerGain a_t_either a_t_byYear a_t_memo t_personNames p1 X C r hE n) 0 hn
/-! ##### LendTown$Town.findDeal(J)I -/
abbrev rm_X10_findDeal : Room := { frames := 0, cells := 0, slots := 0, locals := 0 }
theorem jy_X10_findDeal : jY yX10_findDeal wsX10_findDeal rm_X10_findDeal cX10_findDeal 4 (some .int) 1 := ⟨⟨_, rfl⟩, ⟨rfl, rfl⟩, by decide, by decide, by decide +kernel⟩
theorem in_X10_findDeal_X10 : ∀ w ∈ u_ws RX10 TX10 17, w ∈ wsX10_findDeal := fun w h => List.mem_cons_of_mem _ (List.mem_append_right _ (h))
theorem fl_X10_findDeal_15 : Cond.fieldLink RX10 15 "LendTown$Town" "deals" "I" ∈ wsX10_findDeal := List.mem_of_getElem? (i := 1) rfl
theorem fl_X10_findDeal_38 : Cond.fieldLink RX10 38 "LendTown$Town" "dealNames" "[J" ∈ wsX10_findDeal := List.mem_of_getElem? (i := 2) rfl
def wd_X10_findDeal (G : jG) (a_t : Nat) (a_t_dealNames : Nat) (t_persons : Int32) (t_deals : Int32) (t_lawYears : Int32) (t_toldParts : Int32) (a_t_personNames : Nat) (a_t_born : Nat) (a_t_dies : Nat) (a_t_limit : Nat) (a_t_lender : Nat) (a_t_borrower : Nat) (a_t_year : Nat) (a_t_lenderGain : Nat) (a_t_borrowerGain : Nat) (a_t_either : Nat) (a_t_byYear : Nat) (a_t_memo : Nat) (t_dealNames : Nat → Int64) : va_W := [(a_t, .inr (10, [.int t_persons, .int t_deals, .int t_lawYears, .int t_toldParts, .ref a_t_personNames, .ref a_t_born, .ref a_t_dies, .ref a_t_limit, .ref a_t_dealNames, .ref a_t_lender, .ref a_t_borrower, .ref a_t_year, .ref a_t_lenderGain, .ref a_t_borrowerGain, .ref a_t_either, .ref a_t_byYear, .ref a_t_memo])), (a_t_dealNames, .inl (G.2.2.2.1, 30, .inr (.inl t_dealNames)))]
set_option maxHeartbeats 8000000 in
set_option maxRecDepth 100000 in
theorem lb_X10_findDeal_0 (l : Launch) (G : jG) (a_t : Nat) (a_t_dealNames : Nat) (t_persons : Int32) (t_deals : Int32) (t_lawYears : Int32) (t_toldParts : Int32) (a_t_personNames : Nat) (a_t_born : Nat) (a_t_dies : Nat) (a_t_limit : Nat) (a_t_lender : Nat) (a_t_borrower : Nat) (a_t_year : Nat) (a_t_lenderGain : Nat) (a_t_borrowerGain : Nat) (a_t_either : Nat) (a_t_byYear : Nat) (a_t_memo : Nat) (t_dealNames : Nat → Int64) (p1 : Int64) (X : jX) (C : jC X l G 4 rm_X10_findDeal cX10_findDeal RX10 wsX10_findDeal) (r : Int32) (hE : jE X (some .int) (some (.int r)) (wd_X10_findDeal G a_t a_t_dealNames t_persons t_deals t_lawYears t_toldParts a_t_personNames a_t_born a_t_dies a_t_limit a_t_lender a_t_borrower a_t_year a_t_lenderGain a_t_borrowerGain a_t_either a_t_byYear a_t_memo t_dealNames)) (n : Nat) (IH0 : ∀ (v3 : Int32), lpN (st_X10_findDeal t_deals t_dealNames p1) n (v3) = some r → J X 0 0 (wd_X10_findDeal G a_t a_t_dealNames t_persons t_deals t_lawYears t_toldParts a_t_personNames a_t_born a_t_dies a_t_limit a_t_lender a_t_borrower a_t_year a_t_lenderGain a_t_borrowerGain a_t_either a_t_byYear a_t_memo t_dealNames) [(0, .ref a_t), (1, .long p1), (3, .int v3)] 2 []) (v3 : Int32) (hd : lpR (st_X10_findDeal t_deals t_dealNames p1) n (bd_X10_findDeal_0 t_deals t_dealNames p1 v3) = some r) : J X 0 0 (wd_X10_findDeal G a_t a_t_dealNames t_persons t_deals t_lawYears t_toldParts a_t_personNames a_t_born a_t_dies a_t_limit a_t_lender a_t_borrower a_t_year a_t_lenderGain a_t_borrowerGain a_t_either a_t_byYear a_t_memo t_dealNames) [(0, .ref a_t), (1, .long p1), (3, .int v3)] 2 [] := by
  unfold bd_X10_findDeal_0 at hd
  refine j_iload_n (pc := 2) C dX10_findDeal_2 rfl 2 rfl ?_
  refine j_aload_n (pc := 3) C dX10_findDeal_3 rfl 0 rfl ?_
  refine j_get (pc := 4) (q0 := 0) (ci := 10) (kf := 1) C dX10_findDeal_4 in_X10_findDeal_X10 rfl (by decide) fl_X10_findDeal_15 rfl rfl ?_
  refine j_icmp_ge (pc := 7) (tgt := 29) C dX10_findDeal_7 (by decide) (fun c1 => ?_) (fun c1 => ?_)
  · have hd := lp_pos c1 hd
    refine j_iconst (pc := 29) (v := (-1)) C dX10_findDeal_29 jk_Im1 ?_
    obtain rfl := Option.some.inj hd
    exact j_iret (pc := 30) C hE dX10_findDeal_30 rfl rfl
  · have hd := lp_neg c1 hd
    refine j_aload_n (pc := 10) C dX10_findDeal_10 rfl 0 rfl ?_
    refine j_get (pc := 11) (q0 := 0) (ci := 10) (kf := 8) C dX10_findDeal_11 in_X10_findDeal_X10 rfl (by decide) fl_X10_findDeal_38 rfl rfl ?_
    refine j_iload_n (pc := 14) C dX10_findDeal_14 rfl 2 rfl ?_
    obtain ⟨h2, hd⟩ := lp_chk hd
    refine j_lald (pc := 15) (q0 := 1) C dX10_findDeal_15 rfl h2 ?_
    refine j_lload_n (pc := 16) C dX10_findDeal_16 rfl 1 rfl ?_
    refine j_lcmp (pc := 17) C dX10_findDeal_17 ?_
    refine j_iflc_ne (pc := 18) (tgt := 23) C dX10_findDeal_18 (by decide) (fun c3 => ?_) (fun c3 => ?_)
    · have hd := lp_neg c3 hd
      refine j_iinc (pc := 23) (lv2 := [(0, .ref a_t), (1, .long p1), (3, .int (v3 + 1))]) C dX10_findDeal_23 jk_I1 (by decide) 2 rfl [1, 2, 0] rfl ?_
      refine j_goto (pc := 26) (tgt := 2) C dX10_findDeal_26 (by decide) ?_
      refine j_sub (lv2 := [(0, .ref a_t), (1, .long p1), (3, .int (v3 + 1))]) [0, 1, 2] rfl ?_
      exact IH0 (v3 + 1) hd
    · have hd := lp_pos c3 hd
      refine j_iload_n (pc := 21) C dX10_findDeal_21 rfl 2 rfl ?_
      obtain rfl := Option.some.inj hd
      exact j_iret (pc := 22) C hE dX10_findDeal_22 rfl rfl
set_option maxHeartbeats 8000000 in
set_option maxRecDepth 100000 in
theorem la_X10_findDeal (l : Launch) (G : jG) (a_t : Nat) (a_t_dealNames : Nat) (t_persons : Int32) (t_deals : Int32) (t_lawYears : Int32) (t_toldParts : Int32) (a_t_personNames : Nat) (a_t_born : Nat) (a_t_dies : Nat) (a_t_limit : Nat) (a_t_lender : Nat) (a_t_borrower : Nat) (a_t_year : Nat) (a_t_lenderGain : Nat) (a_t_borrowerGain : Nat) (a_t_either : Nat) (a_t_byYear : Nat) (a_t_memo : Nat) (t_dealNames : Nat → Int64) (p1 : Int64) (X : jX) (C : jC X l G 4 rm_X10_findDeal cX10_findDeal RX10 wsX10_findDeal) (r : Int32) (hE : jE X (some .int) (some (.int r)) (wd_X10_findDeal G a_t a_t_dealNames t_persons t_deals t_lawYears t_toldParts a_t_personNames a_t_born a_t_dies a_t_limit a_t_lender a_t_borrower a_t_year a_t_lenderGain a_t_borrowerGain a_t_either a_t_byYear a_t_memo t_dealNames)) (n : Nat) : (∀ (v3 : Int32), lpN (st_X10_findDeal t_deals t_dealNames p1) n (v3) = some r → J X 0 0 (wd_X10_findDeal G a_t a_t_dealNames t_persons t_deals t_lawYears t_toldParts a_t_personNames a_t_born a_t_dies a_t_limit a_t_lender a_t_borrower a_t_year a_t_lenderGain a_t_borrowerGain a_t_either a_t_byYear a_t_memo t_dealNames) [(0, .ref a_t), (1, .long p1), (3, .int v3)] 2 []) := by
  induction n with
  | zero => exact (fun v3 h => by cases h)
  | succ n ih => exact (fun v3 h => lb_X10_findDeal_0 l G a_t a_t_dealNames t_persons t_deals t_lawYears t_toldParts a_t_personNames a_t_born a_t_dies a_t_limit a_t_lender a_t_borrower a_t_year a_t_lenderGain a_t_borrowerGain a_t_either a_t_byYear a_t_memo t_dealNames p1 X C r hE n (ih) v3 (by rw [lpN_succ] at h; exact h))
set_option maxHeartbeats 8000000 in
set_option maxRecDepth 100000 in
theorem ct_X10_findDeal (l : Launch) (G : jG) (a_t : Nat) (a_t_dealNames : Nat) (t_persons : Int32) (t_deals : Int32) (t_lawYears : Int32) (t_toldParts : Int32) (a_t_personNames : Nat) (a_t_born : Nat) (a_t_dies : Nat) (a_t_limit : Nat) (a_t_lender : Nat) (a_t_borrower : Nat) (a_t_year : Nat) (a_t_lenderGain : Nat) (a_t_borrowerGain : Nat) (a_t_either : Nat) (a_t_byYear : Nat) (a_t_memo : Nat) (t_dealNames : Nat → Int64) (p1 : Int64) (r : Int32) (hd : dn_X10_findDeal t_deals t_dealNames p1 = some r) : jM l G yX10_findDeal wsX10_findDeal rm_X10_findDeal [.ref a_t, .long p1] (wd_X10_findDeal G a_t a_t_dealNames t_persons t_deals t_lawYears t_toldParts a_t_personNames a_t_born a_t_dies a_t_limit a_t_lender a_t_borrower a_t_year a_t_lenderGain a_t_borrowerGain a_t_either a_t_byYear a_t_memo t_dealNames) (some (.int r)) (wd_X10_findDeal G a_t a_t_dealNames t_persons t_deals t_lawYears t_toldParts a_t_personNames a_t_born a_t_dies a_t_limit a_t_lender a_t_borrower a_t_year a_t_lenderGain a_t_borrowerGain a_t_either a_t_byYear a_t_memo t_dealNames) := by
  refine jM_of (own := RX10) (by decide) rfl rfl rfl (Nat.le_of_ble_eq_true rfl) (lv0 := [(0, .ref a_t), (1, .long p1)]) rfl (fun X C hE => ?_)
  unfold dn_X10_findDeal at hd
  refine j_iconst (pc := 0) (v := 0) C dX10_findDeal_0 jk_I0 ?_
  refine j_istore_n (pc := 1) (lv2 := [(0, .ref a_t), (1, .long p1), (3, .int 0)]) C dX10_findDeal_1 rfl (by decide) [1, 2, 0] rfl ?_
  refine j_sub (lv2 := [(0, .ref a_t), (1, .long p1), (3, .int 0)]) [0, 1, 2] rfl ?_
  obtain ⟨n, hn⟩ := lpC_ex hd
  exact (la_X10_findDeal l G a_t a_t_dealNames t_persons t_deals t_lawYears t_toldParts a_t_personNames a_t_born a_t_dies a_t_limit a_t_lender a_t_borrower a_t_year a_t_lenderGain a_t_borrowerGain a_t_either a_t_byYear a_t_memo t_dealNames p1 X C r hE n) 0 hn
/-! ##### LendTown$Town.addPerson(JII)V -/
abbrev rm_X10_addPerson : Room := { frames := 0, cells := 0, slots := 0, locals := 0 }
theorem jy_X10_addPerson : jY yX10_addPerson wsX10_addPerson rm_X10_addPerson cX10_addPerson 5 none 3 := ⟨⟨_, rfl⟩, ⟨rfl, rfl⟩, by decide, by decide, by decide +kernel⟩
theorem in_X10_addPerson_X10 : ∀ w ∈ u_ws RX10 TX10 17, w ∈ wsX10_addPerson := fun w h => List.mem_cons_of_mem _ (List.mem_append_right _ (h))
theorem fl_X10_addPerson_9 : Cond.fieldLink RX10 9 "LendTown$Town" "persons" "I" ∈ wsX10_addPerson := List.mem_of_getElem? (i := 1) rfl
theorem fl_X10_addPerson_24 : Cond.fieldLink RX10 24 "LendTown$Town" "personNames" "[J" ∈ wsX10_addPerson := List.mem_of_getElem? (i := 2) rfl
theorem fl_X10_addPerson_28 : Cond.fieldLink RX10 28 "LendTown$Town" "born" "[I" ∈ wsX10_addPerson := List.mem_of_getElem? (i := 3) rfl
theorem fl_X10_addPerson_32 : Cond.fieldLink RX10 32 "LendTown$Town" "dies" "[I" ∈ wsX10_addPerson := List.mem_of_getElem? (i := 4) rfl
theorem fl_X10_addPerson_35 : Cond.fieldLink RX10 35 "LendTown$Town" "limit" "[I" ∈ wsX10_addPerson := List.mem_of_getElem? (i := 5) rfl
def wd_X10_addPerson (G : jG) (a_t : Nat) (a_t_born : Nat) (a_t_dies : Nat) (a_t_limit : Nat) (a_t_personNames : Nat) (t_persons : Int32) (t_deals : Int32) (t_lawYears : Int32) (t_toldParts : Int32) (a_t_dealNames : Nat) (a_t_lender : Nat) (a_t_borrower : Nat) (a_t_year : Nat) (a_t_lenderGain : Nat) (a_t_borrowerGain : Nat) (a_t_either : Nat) (a_t_byYear : Nat) (a_t_memo : Nat) (t_born : Nat → Int32) (t_dies : Nat → Int32) (t_limit : Nat → Int32) (t_personNames : Nat → Int64) : va_W := [(a_t, .inr (10, [.int t_persons, .int t_deals, .int t_lawYears, .int t_toldParts, .ref a_t_personNames, .ref a_t_born, .ref a_t_dies, .ref a_t_limit, .ref a_t_dealNames, .ref a_t_lender, .ref a_t_borrower, .ref a_t_year, .ref a_t_lenderGain, .ref a_t_borrowerGain, .ref a_t_either, .ref a_t_byYear, .ref a_t_memo])), (a_t_born, .inl (G.2.2.1, 10, .inl t_born)), (a_t_dies, .inl (G.2.2.1, 10, .inl t_dies)), (a_t_limit, .inl (G.2.2.1, 10, .inl t_limit)), (a_t_personNames, .inl (G.2.2.2.1, 10, .inr (.inl t_personNames)))]
set_option maxHeartbeats 8000000 in
set_option maxRecDepth 100000 in
theorem ct_X10_addPerson (l : Launch) (G : jG) (a_t : Nat) (a_t_born : Nat) (a_t_dies : Nat) (a_t_limit : Nat) (a_t_personNames : Nat) (t_persons : Int32) (t_deals : Int32) (t_lawYears : Int32) (t_toldParts : Int32) (a_t_dealNames : Nat) (a_t_lender : Nat) (a_t_borrower : Nat) (a_t_year : Nat) (a_t_lenderGain : Nat) (a_t_borrowerGain : Nat) (a_t_either : Nat) (a_t_byYear : Nat) (a_t_memo : Nat) (t_born : Nat → Int32) (t_dies : Nat → Int32) (t_limit : Nat → Int32) (t_personNames : Nat → Int64) (p1 : Int64) (p2 : Int32) (p3 : Int32) (r : (Nat → Int64) × (Nat → Int32) × (Nat → Int32) × (Nat → Int32) × Int32) (hd : dn_X10_addPerson t_persons t_born t_dies t_limit t_personNames p1 p2 p3 = some r) : jM l G yX10_addPerson wsX10_addPerson rm_X10_addPerson [.ref a_t, .long p1, .int p2, .int p3] (wd_X10_addPerson G a_t a_t_born a_t_dies a_t_limit a_t_personNames t_persons t_deals t_lawYears t_toldParts a_t_dealNames a_t_lender a_t_borrower a_t_year a_t_lenderGain a_t_borrowerGain a_t_either a_t_byYear a_t_memo t_born t_dies t_limit t_personNames) none (wd_X10_addPerson G a_t a_t_born a_t_dies a_t_limit a_t_personNames r.2.2.2.2 t_deals t_lawYears t_toldParts a_t_dealNames a_t_lender a_t_borrower a_t_year a_t_lenderGain a_t_borrowerGain a_t_either a_t_byYear a_t_memo r.2.1 r.2.2.1 r.2.2.2.1 r.1) := by
  refine jM_of (own := RX10) (by decide) rfl rfl rfl (Nat.le_of_ble_eq_true rfl) (lv0 := [(0, .ref a_t), (1, .long p1), (3, .int p2), (4, .int p3)]) rfl (fun X C hE => ?_)
  unfold dn_X10_addPerson at hd
  refine j_aload_n (pc := 0) C dX10_addPerson_0 rfl 0 rfl ?_
  refine j_get (pc := 1) (q0 := 0) (ci := 10) (kf := 0) C dX10_addPerson_1 in_X10_addPerson_X10 rfl (by decide) fl_X10_addPerson_9 rfl rfl ?_
  refine j_bipush (pc := 4) (v := 10) C dX10_addPerson_4 jk_B10 ?_
  refine j_icmp_lt (pc := 6) (tgt := 10) C dX10_addPerson_6 (by decide) (fun c1 => ?_) (fun c1 => ?_)
  · have hd := ob_pos c1 hd
    refine j_aload_n (pc := 10) C dX10_addPerson_10 rfl 0 rfl ?_
    refine j_get (pc := 11) (q0 := 0) (ci := 10) (kf := 4) C dX10_addPerson_11 in_X10_addPerson_X10 rfl (by decide) fl_X10_addPerson_24 rfl rfl ?_
    refine j_aload_n (pc := 14) C dX10_addPerson_14 rfl 0 rfl ?_
    refine j_get (pc := 15) (q0 := 0) (ci := 10) (kf := 0) C dX10_addPerson_15 in_X10_addPerson_X10 rfl (by decide) fl_X10_addPerson_9 rfl rfl ?_
    refine j_lload_n (pc := 18) C dX10_addPerson_18 rfl 1 rfl ?_
    obtain ⟨h2, hd⟩ := ob_chk hd
    refine j_last (pc := 19) (q0 := 4) (ws2 := wd_X10_addPerson G a_t a_t_born a_t_dies a_t_limit a_t_personNames t_persons t_deals t_lawYears t_toldParts a_t_dealNames a_t_lender a_t_borrower a_t_year a_t_lenderGain a_t_borrowerGain a_t_either a_t_byYear a_t_memo t_born t_dies t_limit (vp_updL t_personNames (t_persons).toNatClampNeg p1)) C dX10_addPerson_19 rfl h2 rfl ?_
    refine j_aload_n (pc := 20) C dX10_addPerson_20 rfl 0 rfl ?_
    refine j_get (pc := 21) (q0 := 0) (ci := 10) (kf := 5) C dX10_addPerson_21 in_X10_addPerson_X10 rfl (by decide) fl_X10_addPerson_28 rfl rfl ?_
    refine j_aload_n (pc := 24) C dX10_addPerson_24 rfl 0 rfl ?_
    refine j_get (pc := 25) (q0 := 0) (ci := 10) (kf := 0) C dX10_addPerson_25 in_X10_addPerson_X10 rfl (by decide) fl_X10_addPerson_9 rfl rfl ?_
    refine j_iload_n (pc := 28) C dX10_addPerson_28 rfl 2 rfl ?_
    obtain ⟨h3, hd⟩ := ob_chk hd
    refine j_iast (pc := 29) (q0 := 1) (ws2 := wd_X10_addPerson G a_t a_t_born a_t_dies a_t_limit a_t_personNames t_persons t_deals t_lawYears t_toldParts a_t_dealNames a_t_lender a_t_borrower a_t_year a_t_lenderGain a_t_borrowerGain a_t_either a_t_byYear a_t_memo (upd t_born (t_persons).toNatClampNeg p2) t_dies t_limit (vp_updL t_personNames (t_persons).toNatClampNeg p1)) C dX10_addPerson_29 rfl h3 rfl ?_
    refine j_aload_n (pc := 30) C dX10_addPerson_30 rfl 0 rfl ?_
    refine j_get (pc := 31) (q0 := 0) (ci := 10) (kf := 6) C dX10_addPerson_31 in_X10_addPerson_X10 rfl (by decide) fl_X10_addPerson_32 rfl rfl ?_
    refine j_aload_n (pc := 34) C dX10_addPerson_34 rfl 0 rfl ?_
    refine j_get (pc := 35) (q0 := 0) (ci := 10) (kf := 0) C dX10_addPerson_35 in_X10_addPerson_X10 rfl (by decide) fl_X10_addPerson_9 rfl rfl ?_
    refine j_iload (pc := 38) C dX10_addPerson_38 3 rfl ?_
    obtain ⟨h4, hd⟩ := ob_chk hd
    refine j_iast (pc := 40) (q0 := 2) (ws2 := wd_X10_addPerson G a_t a_t_born a_t_dies a_t_limit a_t_personNames t_persons t_deals t_lawYears t_toldParts a_t_dealNames a_t_lender a_t_borrower a_t_year a_t_lenderGain a_t_borrowerGain a_t_either a_t_byYear a_t_memo (upd t_born (t_persons).toNatClampNeg p2) (upd t_dies (t_persons).toNatClampNeg p3) t_limit (vp_updL t_personNames (t_persons).toNatClampNeg p1)) C dX10_addPerson_40 rfl h4 rfl ?_
    refine j_aload_n (pc := 41) C dX10_addPerson_41 rfl 0 rfl ?_
    refine j_get (pc := 42) (q0 := 0) (ci := 10) (kf := 7) C dX10_addPerson_42 in_X10_addPerson_X10 rfl (by decide) fl_X10_addPerson_35 rfl rfl ?_
    refine j_aload_n (pc := 45) C dX10_addPerson_45 rfl 0 rfl ?_
    refine j_get (pc := 46) (q0 := 0) (ci := 10) (kf := 0) C dX10_addPerson_46 in_X10_addPerson_X10 rfl (by decide) fl_X10_addPerson_9 rfl rfl ?_
    refine j_bipush (pc := 49) (v := 9) C dX10_addPerson_49 jk_B9 ?_
    obtain ⟨h5, hd⟩ := ob_chk hd
    refine j_iast (pc := 51) (q0 := 3) (ws2 := wd_X10_addPerson G a_t a_t_born a_t_dies a_t_limit a_t_personNames t_persons t_deals t_lawYears t_toldParts a_t_dealNames a_t_lender a_t_borrower a_t_year a_t_lenderGain a_t_borrowerGain a_t_either a_t_byYear a_t_memo (upd t_born (t_persons).toNatClampNeg p2) (upd t_dies (t_persons).toNatClampNeg p3) (upd t_limit (t_persons).toNatClampNeg 9) (vp_updL t_personNames (t_persons).toNatClampNeg p1)) C dX10_addPerson_51 rfl h5 rfl ?_
    refine j_aload_n (pc := 52) C dX10_addPerson_52 rfl 0 rfl ?_
    refine j_dup (pc := 53) C dX10_addPerson_53 rfl ?_
    refine j_get (pc := 54) (q0 := 0) (ci := 10) (kf := 0) C dX10_addPerson_54 in_X10_addPerson_X10 rfl (by decide) fl_X10_addPerson_9 rfl rfl ?_
    refine j_iconst (pc := 57) (v := 1) C dX10_addPerson_57 jk_I1 ?_
    refine j_iadd (pc := 58) C dX10_addPerson_58 ?_
    refine j_put (pc := 59) (q0 := 0) (ci := 10) (kf := 0) (ws2 := wd_X10_addPerson G a_t a_t_born a_t_dies a_t_limit a_t_personNames (t_persons + 1) t_deals t_lawYears t_toldParts a_t_dealNames a_t_lender a_t_borrower a_t_year a_t_lenderGain a_t_borrowerGain a_t_either a_t_byYear a_t_memo (upd t_born (t_persons).toNatClampNeg p2) (upd t_dies (t_persons).toNatClampNeg p3) (upd t_limit (t_persons).toNatClampNeg 9) (vp_updL t_personNames (t_persons).toNatClampNeg p1)) C dX10_addPerson_59 in_X10_addPerson_X10 tyX10 tyX10_ok nmX10 rfl (by decide) fl_X10_addPerson_9 rfl rfl rfl rfl (Nat.le_of_ble_eq_true rfl) rfl ?_
    obtain rfl := Option.some.inj hd
    exact j_vret (pc := 62) C hE dX10_addPerson_62 rfl rfl
  · have hd := ob_neg c1 hd
    obtain rfl := Option.some.inj hd
    exact j_vret (pc := 9) C hE dX10_addPerson_9 rfl rfl
/-! ##### LendTown$Town.ownOf(II)I -/
abbrev rm_X10_ownOf : Room := { frames := 1, cells := 0, slots := 0, locals := 24 }
theorem jy_X10_ownOf : jY yX10_ownOf wsX10_ownOf rm_X10_ownOf cX10_ownOf 5 (some .int) 2 := ⟨⟨_, rfl⟩, ⟨rfl, rfl⟩, by decide, by decide, by decide +kernel⟩
theorem in_X10_ownOf_X10 : ∀ w ∈ u_ws RX10 TX10 17, w ∈ wsX10_ownOf := fun w h => List.mem_cons_of_mem _ (List.mem_append_right _ (h))
theorem fl_X10_ownOf_15 : Cond.fieldLink RX10 15 "LendTown$Town" "deals" "I" ∈ wsX10_ownOf := List.mem_of_getElem? (i := 1) rfl
def wd_X10_ownOf (G : jG) (a_t : Nat) (a_t_borrower : Nat) (a_t_borrowerGain : Nat) (a_t_either : Nat) (a_t_lender : Nat) (a_t_lenderGain : Nat) (t_persons : Int32) (t_deals : Int32) (t_lawYears : Int32) (t_toldParts : Int32) (a_t_personNames : Nat) (a_t_born : Nat) (a_t_dies : Nat) (a_t_limit : Nat) (a_t_dealNames : Nat) (a_t_year : Nat) (a_t_byYear : Nat) (a_t_memo : Nat) (t_borrower : Nat → Int32) (t_borrowerGain : Nat → Int32) (t_either : Nat → Int32) (t_lender : Nat → Int32) (t_lenderGain : Nat → Int32) : va_W := [(a_t, .inr (10, [.int t_persons, .int t_deals, .int t_lawYears, .int t_toldParts, .ref a_t_personNames, .ref a_t_born, .ref a_t_dies, .ref a_t_limit, .ref a_t_dealNames, .ref a_t_lender, .ref a_t_borrower, .ref a_t_year, .ref a_t_lenderGain, .ref a_t_borrowerGain, .ref a_t_either, .ref a_t_byYear, .ref a_t_memo])), (a_t_borrower, .inl (G.2.2.1, 30, .inl t_borrower)), (a_t_borrowerGain, .inl (G.2.2.1, 30, .inl t_borrowerGain)), (a_t_either, .inl (G.2.2.1, 30, .inl t_either)), (a_t_lender, .inl (G.2.2.1, 30, .inl t_lender)), (a_t_lenderGain, .inl (G.2.2.1, 30, .inl t_lenderGain))]
set_option maxHeartbeats 8000000 in
set_option maxRecDepth 100000 in
theorem lb_X10_ownOf_0 (l : Launch) (G : jG) (a_t : Nat) (a_t_borrower : Nat) (a_t_borrowerGain : Nat) (a_t_either : Nat) (a_t_lender : Nat) (a_t_lenderGain : Nat) (t_persons : Int32) (t_deals : Int32) (t_lawYears : Int32) (t_toldParts : Int32) (a_t_personNames : Nat) (a_t_born : Nat) (a_t_dies : Nat) (a_t_limit : Nat) (a_t_dealNames : Nat) (a_t_year : Nat) (a_t_byYear : Nat) (a_t_memo : Nat) (t_borrower : Nat → Int32) (t_borrowerGain : Nat → Int32) (t_either : Nat → Int32) (t_lender : Nat → Int32) (t_lenderGain : Nat → Int32) (p1 : Int32) (p2 : Int32) (X : jX) (C : jC X l G 5 rm_X10_ownOf cX10_ownOf RX10 wsX10_ownOf) (r : Int32) (hE : jE X (some .int) (some (.int r)) (wd_X10_ownOf G a_t a_t_borrower a_t_borrowerGain a_t_either a_t_lender a_t_lenderGain t_persons t_deals t_lawYears t_toldParts a_t_personNames a_t_born a_t_dies a_t_limit a_t_dealNames a_t_year a_t_byYear a_t_memo t_borrower t_borrowerGain t_either t_lender t_lenderGain)) (n : Nat) (IH0 : ∀ (v3 : Int32) (v4 : Int32), lpN (st_X10_ownOf t_deals t_borrower t_borrowerGain t_either t_lender t_lenderGain p1 p2) n ((v3, v4)) = some r → J X 0 0 (wd_X10_ownOf G a_t a_t_borrower a_t_borrowerGain a_t_either a_t_lender a_t_lenderGain t_persons t_deals t_lawYears t_toldParts a_t_personNames a_t_born a_t_dies a_t_limit a_t_dealNames a_t_year a_t_byYear a_t_memo t_borrower t_borrowerGain t_either t_lender t_lenderGain) [(0, .ref a_t), (1, .int p1), (2, .int p2), (3, .int v3), (4, .int v4)] 5 []) (v3 : Int32) (v4 : Int32) (hd : lpR (st_X10_ownOf t_deals t_borrower t_borrowerGain t_either t_lender t_lenderGain p1 p2) n (bd_X10_ownOf_0 t_deals t_borrower t_borrowerGain t_either t_lender t_lenderGain p1 p2 v3 v4) = some r) : J X 0 0 (wd_X10_ownOf G a_t a_t_borrower a_t_borrowerGain a_t_either a_t_lender a_t_lenderGain t_persons t_deals t_lawYears t_toldParts a_t_personNames a_t_born a_t_dies a_t_limit a_t_dealNames a_t_year a_t_byYear a_t_memo t_borrower t_borrowerGain t_either t_lender t_lenderGain) [(0, .ref a_t), (1, .int p1), (2, .int p2), (3, .int v3), (4, .int v4)] 5 [] := by
  unfold bd_X10_ownOf_0 at hd
  refine j_iload (pc := 5) C dX10_ownOf_5 4 rfl ?_
  refine j_aload_n (pc := 7) C dX10_ownOf_7 rfl 0 rfl ?_
  refine j_get (pc := 8) (q0 := 0) (ci := 10) (kf := 1) C dX10_ownOf_8 in_X10_ownOf_X10 rfl (by decide) fl_X10_ownOf_15 rfl rfl ?_
  refine j_icmp_ge (pc := 11) (tgt := 50) C dX10_ownOf_11 (by decide) (fun c1 => ?_) (fun c1 => ?_)
  · have hd := lp_pos c1 hd
    refine j_iload_n (pc := 50) C dX10_ownOf_50 rfl 3 rfl ?_
    obtain rfl := Option.some.inj hd
    exact j_iret (pc := 51) C hE dX10_ownOf_51 rfl rfl
  · have hd := lp_neg c1 hd
    refine j_aload_n (pc := 14) C dX10_ownOf_14 rfl 0 rfl ?_
    refine j_iload (pc := 15) C dX10_ownOf_15 4 rfl ?_
    refine j_iload_n (pc := 17) C dX10_ownOf_17 rfl 1 rfl ?_
    obtain ⟨q2, eq2, hd⟩ := lp_bind hd
    refine j_callV (pc := 18) (q0 := 0) (ci := 10) (As := [.int v4, .int p1]) (rest := []) (st2 := [.int (b2i q2)]) (ws2 := wd_X10_ownOf G a_t a_t_borrower a_t_borrowerGain a_t_either a_t_lender a_t_lenderGain t_persons t_deals t_lawYears t_toldParts a_t_personNames a_t_born a_t_dies a_t_limit a_t_dealNames a_t_year a_t_byYear a_t_memo t_borrower t_borrowerGain t_either t_lender t_lenderGain) C (ct_X10_isIn l G a_t a_t_borrower a_t_lender t_persons t_deals t_lawYears t_toldParts a_t_personNames a_t_born a_t_dies a_t_limit a_t_dealNames a_t_year a_t_lenderGain a_t_borrowerGain a_t_either a_t_byYear a_t_memo t_borrower t_lender v4 p1 q2 eq2) jy_X10_isIn dX10_ownOf_18 gX10_ownOf_X10_isIn rfl rfl (by decide) ⟨Nat.zero_le _, Nat.zero_le _⟩ [0, 1, 4] rfl rfl (jpt_eq rfl rfl rfl) rfl rfl rfl (Nat.le_of_ble_eq_true rfl) rfl ?_
    refine j_ifb_eq (pc := 21) (tgt := 44) C dX10_ownOf_21 (by decide) (fun c3 => ?_) (fun c3 => ?_)
    · have hd := lp_neg c3 hd
      refine j_iinc (pc := 44) (lv2 := [(0, .ref a_t), (1, .int p1), (2, .int p2), (3, .int v3), (4, .int (v4 + 1))]) C dX10_ownOf_44 jk_I1 (by decide) 4 rfl [1, 2, 3, 4, 0] rfl ?_
      refine j_goto (pc := 47) (tgt := 5) C dX10_ownOf_47 (by decide) ?_
      refine j_sub (lv2 := [(0, .ref a_t), (1, .int p1), (2, .int p2), (3, .int v3), (4, .int (v4 + 1))]) [0, 1, 2, 3, 4] rfl ?_
      exact IH0 v3 (v4 + 1) hd
    · have hd := lp_pos c3 hd
      refine j_aload_n (pc := 24) C dX10_ownOf_24 rfl 0 rfl ?_
      refine j_iload (pc := 25) C dX10_ownOf_25 4 rfl ?_
      refine j_iload_n (pc := 27) C dX10_ownOf_27 rfl 2 rfl ?_
      obtain ⟨q4, eq4, hd⟩ := lp_bind hd
      refine j_callV (pc := 28) (q0 := 0) (ci := 10) (As := [.int v4, .int p2]) (rest := []) (st2 := [.int (b2i q4)]) (ws2 := wd_X10_ownOf G a_t a_t_borrower a_t_borrowerGain a_t_either a_t_lender a_t_lenderGain t_persons t_deals t_lawYears t_toldParts a_t_personNames a_t_born a_t_dies a_t_limit a_t_dealNames a_t_year a_t_byYear a_t_memo t_borrower t_borrowerGain t_either t_lender t_lenderGain) C (ct_X10_goesBy l G a_t a_t_borrower a_t_either a_t_lender t_persons t_deals t_lawYears t_toldParts a_t_personNames a_t_born a_t_dies a_t_limit a_t_dealNames a_t_year a_t_lenderGain a_t_borrowerGain a_t_byYear a_t_memo t_borrower t_either t_lender v4 p2 q4 eq4) jy_X10_goesBy dX10_ownOf_28 gX10_ownOf_X10_goesBy rfl rfl (by decide) ⟨Nat.zero_le _, Nat.zero_le _⟩ [0, 1, 3, 4] rfl rfl (jpt_eq rfl rfl rfl) rfl rfl rfl (Nat.le_of_ble_eq_true rfl) rfl ?_
      refine j_ifb_eq (pc := 31) (tgt := 44) C dX10_ownOf_31 (by decide) (fun c5 => ?_) (fun c5 => ?_)
      · have hd := lp_neg c5 hd
        refine j_iinc (pc := 44) (lv2 := [(0, .ref a_t), (1, .int p1), (2, .int p2), (3, .int v3), (4, .int (v4 + 1))]) C dX10_ownOf_44 jk_I1 (by decide) 4 rfl [1, 2, 3, 4, 0] rfl ?_
        refine j_goto (pc := 47) (tgt := 5) C dX10_ownOf_47 (by decide) ?_
        refine j_sub (lv2 := [(0, .ref a_t), (1, .int p1), (2, .int p2), (3, .int v3), (4, .int (v4 + 1))]) [0, 1, 2, 3, 4] rfl ?_
        exact IH0 v3 (v4 + 1) hd
      · have hd := lp_pos c5 hd
        refine j_iload_n (pc := 34) C dX10_ownOf_34 rfl 3 rfl ?_
        refine j_aload_n (pc := 35) C dX10_ownOf_35 rfl 0 rfl ?_
        refine j_iload (pc := 36) C dX10_ownOf_36 4 rfl ?_
        refine j_iload_n (pc := 38) C dX10_ownOf_38 rfl 1 rfl ?_
        obtain ⟨q6, eq6, hd⟩ := lp_bind hd
        refine j_callV (pc := 39) (q0 := 0) (ci := 10) (As := [.int v4, .int p1]) (rest := [.int v3]) (st2 := [.int q6, .int v3]) (ws2 := wd_X10_ownOf G a_t a_t_borrower a_t_borrowerGain a_t_either a_t_lender a_t_lenderGain t_persons t_deals t_lawYears t_toldParts a_t_personNames a_t_born a_t_dies a_t_limit a_t_dealNames a_t_year a_t_byYear a_t_memo t_borrower t_borrowerGain t_either t_lender t_lenderGain) C (ct_X10_shareOf l G a_t a_t_borrower a_t_borrowerGain a_t_lender a_t_lenderGain t_persons t_deals t_lawYears t_toldParts a_t_personNames a_t_born a_t_dies a_t_limit a_t_dealNames a_t_year a_t_either a_t_byYear a_t_memo t_borrower t_borrowerGain t_lender t_lenderGain v4 p1 q6 eq6) jy_X10_shareOf dX10_ownOf_39 gX10_ownOf_X10_shareOf rfl rfl (by decide) ⟨Nat.zero_le _, Nat.zero_le _⟩ [0, 1, 2, 4, 5] rfl rfl (jpt_eq rfl rfl rfl) rfl rfl rfl (Nat.le_of_ble_eq_true rfl) rfl ?_
        refine j_iadd (pc := 42) C dX10_ownOf_42 ?_
        refine j_istore_n (pc := 43) (lv2 := [(0, .ref a_t), (1, .int p1), (2, .int p2), (3, .int (v3 + q6)), (4, .int v4)]) C dX10_ownOf_43 rfl (by decide) [1, 2, 3, 0, 4] rfl ?_
        refine j_iinc (pc := 44) (lv2 := [(0, .ref a_t), (1, .int p1), (2, .int p2), (3, .int (v3 + q6)), (4, .int (v4 + 1))]) C dX10_ownOf_44 jk_I1 (by decide) 4 rfl [1, 2, 3, 4, 0] rfl ?_
        refine j_goto (pc := 47) (tgt := 5) C dX10_ownOf_47 (by decide) ?_
        refine j_sub (lv2 := [(0, .ref a_t), (1, .int p1), (2, .int p2), (3, .int (v3 + q6)), (4, .int (v4 + 1))]) [0, 1, 2, 3, 4] rfl ?_
        exact IH0 (v3 + q6) (v4 + 1) hd
set_option maxHeartbeats 8000000 in
set_option maxRecDepth 100000 in
theorem la_X10_ownOf (l : Launch) (G : jG) (a_t : Nat) (a_t_borrower : Nat) (a_t_borrowerGain : Nat) (a_t_either : Nat) (a_t_lender : Nat) (a_t_lenderGain : Nat) (t_persons : Int32) (t_deals : Int32) (t_lawYears : Int32) (t_toldParts : Int32) (a_t_personNames : Nat) (a_t_born : Nat) (a_t_dies : Nat) (a_t_limit : Nat) (a_t_dealNames : Nat) (a_t_year : Nat) (a_t_byYear : Nat) (a_t_memo : Nat) (t_borrower : Nat → Int32) (t_borrowerGain : Nat → Int32) (t_either : Nat → Int32) (t_lender : Nat → Int32) (t_lenderGain : Nat → Int32) (p1 : Int32) (p2 : Int32) (X : jX) (C : jC X l G 5 rm_X10_ownOf cX10_ownOf RX10 wsX10_ownOf) (r : Int32) (hE : jE X (some .int) (some (.int r)) (wd_X10_ownOf G a_t a_t_borrower a_t_borrowerGain a_t_either a_t_lender a_t_lenderGain t_persons t_deals t_lawYears t_toldParts a_t_personNames a_t_born a_t_dies a_t_limit a_t_dealNames a_t_year a_t_byYear a_t_memo t_borrower t_borrowerGain t_either t_lender t_lenderGain)) (n : Nat) : (∀ (v3 : Int32) (v4 : Int32), lpN (st_X10_ownOf t_deals t_borrower t_borrowerGain t_either t_lender t_lenderGain p1 p2) n ((v3, v4)) = some r → J X 0 0 (wd_X10_ownOf G a_t a_t_borrower a_t_borrowerGain a_t_either a_t_lender a_t_lenderGain t_persons t_deals t_lawYears t_toldParts a_t_personNames a_t_born a_t_dies a_t_limit a_t_dealNames a_t_year a_t_byYear a_t_memo t_borrower t_borrowerGain t_either t_lender t_lenderGain) [(0, .ref a_t), (1, .int p1), (2, .int p2), (3, .int v3), (4, .int v4)] 5 []) := by
  induction n with
  | zero => exact (fun v3 v4 h => by cases h)
  | succ n ih => exact (fun v3 v4 h => lb_X10_ownOf_0 l G a_t a_t_borrower a_t_borrowerGain a_t_either a_t_lender a_t_lenderGain t_persons t_deals t_lawYears t_toldParts a_t_personNames a_t_born a_t_dies a_t_limit a_t_dealNames a_t_year a_t_byYear a_t_memo t_borrower t_borrowerGain t_either t_lender t_lenderGain p1 p2 X C r hE n (ih) v3 v4 (by rw [lpN_succ] at h; exact h))
set_option maxHeartbeats 8000000 in
set_option maxRecDepth 100000 in
theorem ct_X10_ownOf (l : Launch) (G : jG) (a_t : Nat) (a_t_borrower : Nat) (a_t_borrowerGain : Nat) (a_t_either : Nat) (a_t_lender : Nat) (a_t_lenderGain : Nat) (t_persons : Int32) (t_deals : Int32) (t_lawYears : Int32) (t_toldParts : Int32) (a_t_personNames : Nat) (a_t_born : Nat) (a_t_dies : Nat) (a_t_limit : Nat) (a_t_dealNames : Nat) (a_t_year : Nat) (a_t_byYear : Nat) (a_t_memo : Nat) (t_borrower : Nat → Int32) (t_borrowerGain : Nat → Int32) (t_either : Nat → Int32) (t_lender : Nat → Int32) (t_lenderGain : Nat → Int32) (p1 : Int32) (p2 : Int32) (r : Int32) (hd : dn_X10_ownOf t_deals t_borrower t_borrowerGain t_either t_lender t_lenderGain p1 p2 = some r) : jM l G yX10_ownOf wsX10_ownOf rm_X10_ownOf [.ref a_t, .int p1, .int p2] (wd_X10_ownOf G a_t a_t_borrower a_t_borrowerGain a_t_either a_t_lender a_t_lenderGain t_persons t_deals t_lawYears t_toldParts a_t_personNames a_t_born a_t_dies a_t_limit a_t_dealNames a_t_year a_t_byYear a_t_memo t_borrower t_borrowerGain t_either t_lender t_lenderGain) (some (.int r)) (wd_X10_ownOf G a_t a_t_borrower a_t_borrowerGain a_t_either a_t_lender a_t_lenderGain t_persons t_deals t_lawYears t_toldParts a_t_personNames a_t_born a_t_dies a_t_limit a_t_dealNames a_t_year a_t_byYear a_t_memo t_borrower t_borrowerGain t_either t_lender t_lenderGain) := by
  refine jM_of (own := RX10) (by decide) rfl rfl rfl (Nat.le_of_ble_eq_true rfl) (lv0 := [(0, .ref a_t), (1, .int p1), (2, .int p2)]) rfl (fun X C hE => ?_)
  unfold dn_X10_ownOf at hd
  refine j_iconst (pc := 0) (v := 0) C dX10_ownOf_0 jk_I0 ?_
  refine j_istore_n (pc := 1) (lv2 := [(0, .ref a_t), (1, .int p1), (2, .int p2), (3, .int 0)]) C dX10_ownOf_1 rfl (by decide) [1, 2, 3, 0] rfl ?_
  refine j_iconst (pc := 2) (v := 0) C dX10_ownOf_2 jk_I0 ?_
  refine j_istore (pc := 3) (lv2 := [(0, .ref a_t), (1, .int p1), (2, .int p2), (3, .int 0), (4, .int 0)]) C dX10_ownOf_3 (by decide) [1, 2, 3, 4, 0] rfl ?_
  refine j_sub (lv2 := [(0, .ref a_t), (1, .int p1), (2, .int p2), (3, .int 0), (4, .int 0)]) [0, 1, 2, 3, 4] rfl ?_
  obtain ⟨n, hn⟩ := lpC_ex hd
  exact (la_X10_ownOf l G a_t a_t_borrower a_t_borrowerGain a_t_either a_t_lender a_t_lenderGain t_persons t_deals t_lawYears t_toldParts a_t_personNames a_t_born a_t_dies a_t_limit a_t_dealNames a_t_year a_t_byYear a_t_memo t_borrower t_borrowerGain t_either t_lender t_lenderGain p1 p2 X C r hE n) 0 0 hn
/-! ##### LendTown$Town.hasMoreByChange(II)Z -/
abbrev rm_X10_hasMoreByChange : Room := { frames := 2, cells := 0, slots := 0, locals := 48 }
theorem jy_X10_hasMoreByChange : jY yX10_hasMoreByChange wsX10_hasMoreByChange rm_X10_hasMoreByChange cX10_hasMoreByChange 3 (some .boolean) 2 := ⟨⟨_, rfl⟩, ⟨rfl, rfl⟩, by decide, by decide, by decide +kernel⟩
def wd_X10_hasMoreByChange (G : jG) (a_t : Nat) (a_t_borrower : Nat) (a_t_borrowerGain : Nat) (a_t_either : Nat) (a_t_lender : Nat) (a_t_lenderGain : Nat) (t_persons : Int32) (t_deals : Int32) (t_lawYears : Int32) (t_toldParts : Int32) (a_t_personNames : Nat) (a_t_born : Nat) (a_t_dies : Nat) (a_t_limit : Nat) (a_t_dealNames : Nat) (a_t_year : Nat) (a_t_byYear : Nat) (a_t_memo : Nat) (t_borrower : Nat → Int32) (t_borrowerGain : Nat → Int32) (t_either : Nat → Int32) (t_lender : Nat → Int32) (t_lenderGain : Nat → Int32) : va_W := [(a_t, .inr (10, [.int t_persons, .int t_deals, .int t_lawYears, .int t_toldParts, .ref a_t_personNames, .ref a_t_born, .ref a_t_dies, .ref a_t_limit, .ref a_t_dealNames, .ref a_t_lender, .ref a_t_borrower, .ref a_t_year, .ref a_t_lenderGain, .ref a_t_borrowerGain, .ref a_t_either, .ref a_t_byYear, .ref a_t_memo])), (a_t_borrower, .inl (G.2.2.1, 30, .inl t_borrower)), (a_t_borrowerGain, .inl (G.2.2.1, 30, .inl t_borrowerGain)), (a_t_either, .inl (G.2.2.1, 30, .inl t_either)), (a_t_lender, .inl (G.2.2.1, 30, .inl t_lender)), (a_t_lenderGain, .inl (G.2.2.1, 30, .inl t_lenderGain))]
set_option maxHeartbeats 8000000 in
set_option maxRecDepth 100000 in
theorem ct_X10_hasMoreByChange (l : Launch) (G : jG) (a_t : Nat) (a_t_borrower : Nat) (a_t_borrowerGain : Nat) (a_t_either : Nat) (a_t_lender : Nat) (a_t_lenderGain : Nat) (t_persons : Int32) (t_deals : Int32) (t_lawYears : Int32) (t_toldParts : Int32) (a_t_personNames : Nat) (a_t_born : Nat) (a_t_dies : Nat) (a_t_limit : Nat) (a_t_dealNames : Nat) (a_t_year : Nat) (a_t_byYear : Nat) (a_t_memo : Nat) (t_borrower : Nat → Int32) (t_borrowerGain : Nat → Int32) (t_either : Nat → Int32) (t_lender : Nat → Int32) (t_lenderGain : Nat → Int32) (p1 : Int32) (p2 : Int32) (r : Bool) (hd : dn_X10_hasMoreByChange t_deals t_borrower t_borrowerGain t_either t_lender t_lenderGain p1 p2 = some r) : jM l G yX10_hasMoreByChange wsX10_hasMoreByChange rm_X10_hasMoreByChange [.ref a_t, .int p1, .int p2] (wd_X10_hasMoreByChange G a_t a_t_borrower a_t_borrowerGain a_t_either a_t_lender a_t_lenderGain t_persons t_deals t_lawYears t_toldParts a_t_personNames a_t_born a_t_dies a_t_limit a_t_dealNames a_t_year a_t_byYear a_t_memo t_borrower t_borrowerGain t_either t_lender t_lenderGain) (some (.int (b2i r))) (wd_X10_hasMoreByChange G a_t a_t_borrower a_t_borrowerGain a_t_either a_t_lender a_t_lenderGain t_persons t_deals t_lawYears t_toldParts a_t_personNames a_t_born a_t_dies a_t_limit a_t_dealNames a_t_year a_t_byYear a_t_memo t_borrower t_borrowerGain t_either t_lender t_lenderGain) := by
  refine jM_of (own := RX10) (by decide) rfl rfl rfl (Nat.le_of_ble_eq_true rfl) (lv0 := [(0, .ref a_t), (1, .int p1), (2, .int p2)]) rfl (fun X C hE => ?_)
  unfold dn_X10_hasMoreByChange at hd
  refine j_aload_n (pc := 0) C dX10_hasMoreByChange_0 rfl 0 rfl ?_
  refine j_iload_n (pc := 1) C dX10_hasMoreByChange_1 rfl 1 rfl ?_
  refine j_iload_n (pc := 2) C dX10_hasMoreByChange_2 rfl 2 rfl ?_
  refine j_iconst (pc := 3) (v := 1) C dX10_hasMoreByChange_3 jk_I1 ?_
  refine j_iload_n (pc := 4) C dX10_hasMoreByChange_4 rfl 1 rfl ?_
  refine j_ishl (pc := 5) C dX10_hasMoreByChange_5 ?_
  refine j_ixor (pc := 6) C dX10_hasMoreByChange_6 ?_
  obtain ⟨q1, eq1, hd⟩ := ob_bind hd
  refine j_callV (pc := 7) (q0 := 0) (ci := 10) (As := [.int p1, .int (p2 ^^^ ((1 : Int32) <<< (p1 &&& 31)))]) (rest := []) (st2 := [.int q1]) (ws2 := wd_X10_hasMoreByChange G a_t a_t_borrower a_t_borrowerGain a_t_either a_t_lender a_t_lenderGain t_persons t_deals t_lawYears t_toldParts a_t_personNames a_t_born a_t_dies a_t_limit a_t_dealNames a_t_year a_t_byYear a_t_memo t_borrower t_borrowerGain t_either t_lender t_lenderGain) C (ct_X10_ownOf l G a_t a_t_borrower a_t_borrowerGain a_t_either a_t_lender a_t_lenderGain t_persons t_deals t_lawYears t_toldParts a_t_personNames a_t_born a_t_dies a_t_limit a_t_dealNames a_t_year a_t_byYear a_t_memo t_borrower t_borrowerGain t_either t_lender t_lenderGain p1 (p2 ^^^ ((1 : Int32) <<< (p1 &&& 31))) q1 eq1) jy_X10_ownOf dX10_hasMoreByChange_7 gX10_hasMoreByChange_X10_ownOf rfl rfl (by decide) ⟨Nat.zero_le _, Nat.zero_le _⟩ [0, 1, 2, 3, 4, 5] rfl rfl (jpt_eq rfl rfl rfl) rfl rfl rfl (Nat.le_of_ble_eq_true rfl) rfl ?_
  refine j_aload_n (pc := 10) C dX10_hasMoreByChange_10 rfl 0 rfl ?_
  refine j_iload_n (pc := 11) C dX10_hasMoreByChange_11 rfl 1 rfl ?_
  refine j_iload_n (pc := 12) C dX10_hasMoreByChange_12 rfl 2 rfl ?_
  obtain ⟨q2, eq2, hd⟩ := ob_bind hd
  refine j_callV (pc := 13) (q0 := 0) (ci := 10) (As := [.int p1, .int p2]) (rest := [.int q1]) (st2 := [.int q2, .int q1]) (ws2 := wd_X10_hasMoreByChange G a_t a_t_borrower a_t_borrowerGain a_t_either a_t_lender a_t_lenderGain t_persons t_deals t_lawYears t_toldParts a_t_personNames a_t_born a_t_dies a_t_limit a_t_dealNames a_t_year a_t_byYear a_t_memo t_borrower t_borrowerGain t_either t_lender t_lenderGain) C (ct_X10_ownOf l G a_t a_t_borrower a_t_borrowerGain a_t_either a_t_lender a_t_lenderGain t_persons t_deals t_lawYears t_toldParts a_t_personNames a_t_born a_t_dies a_t_limit a_t_dealNames a_t_year a_t_byYear a_t_memo t_borrower t_borrowerGain t_either t_lender t_lenderGain p1 p2 q2 eq2) jy_X10_ownOf dX10_hasMoreByChange_13 gX10_hasMoreByChange_X10_ownOf rfl rfl (by decide) ⟨Nat.zero_le _, Nat.zero_le _⟩ [0, 1, 2, 3, 4, 5] rfl rfl (jpt_eq rfl rfl rfl) rfl rfl rfl (Nat.le_of_ble_eq_true rfl) rfl ?_
  refine j_icmp_le (pc := 16) (tgt := 23) C dX10_hasMoreByChange_16 (by decide) (fun c3 => ?_) (fun c3 => ?_)
  · have hd := ob_pos c3 hd
    refine j_iconst (pc := 23) (v := 0) C dX10_hasMoreByChange_23 jk_I0 ?_
    obtain rfl := Option.some.inj hd
    exact j_zret (pc := 24) C hE dX10_hasMoreByChange_24 rfl rfl rfl
  · have hd := ob_neg c3 hd
    refine j_iconst (pc := 19) (v := 1) C dX10_hasMoreByChange_19 jk_I1 ?_
    refine j_goto (pc := 20) (tgt := 24) C dX10_hasMoreByChange_20 (by decide) ?_
    obtain rfl := Option.some.inj hd
    exact j_zret (pc := 24) C hE dX10_hasMoreByChange_24 rfl rfl rfl
/-! ##### LendTown$Town.copyFrom(LLendTown$Town;)V -/
abbrev rm_X10_copyFrom : Room := { frames := 2, cells := 0, slots := 0, locals := 85 }
theorem jy_X10_copyFrom : jY yX10_copyFrom wsX10_copyFrom rm_X10_copyFrom cX10_copyFrom 2 none 1 := ⟨⟨_, rfl⟩, ⟨rfl, rfl⟩, by decide, by decide, by decide +kernel⟩
theorem in_X10_copyFrom_X10 : ∀ w ∈ u_ws RX10 TX10 17, w ∈ wsX10_copyFrom := fun w h => List.mem_cons_of_mem _ (List.mem_append_left _ (List.mem_append_right _ (h)))
theorem fl_X10_copyFrom_9 : Cond.fieldLink RX10 9 "LendTown$Town" "persons" "I" ∈ wsX10_copyFrom := List.mem_of_getElem? (i := 1) rfl
theorem fl_X10_copyFrom_15 : Cond.fieldLink RX10 15 "LendTown$Town" "deals" "I" ∈ wsX10_copyFrom := List.mem_of_getElem? (i := 2) rfl
theorem fl_X10_copyFrom_18 : Cond.fieldLink RX10 18 "LendTown$Town" "lawYears" "I" ∈ wsX10_copyFrom := List.mem_of_getElem? (i := 3) rfl
theorem fl_X10_copyFrom_21 : Cond.fieldLink RX10 21 "LendTown$Town" "toldParts" "I" ∈ wsX10_copyFrom := List.mem_of_getElem? (i := 4) rfl
theorem fl_X10_copyFrom_24 : Cond.fieldLink RX10 24 "LendTown$Town" "personNames" "[J" ∈ wsX10_copyFrom := List.mem_of_getElem? (i := 5) rfl
theorem fl_X10_copyFrom_28 : Cond.fieldLink RX10 28 "LendTown$Town" "born" "[I" ∈ wsX10_copyFrom := List.mem_of_getElem? (i := 10) rfl
theorem fl_X10_copyFrom_32 : Cond.fieldLink RX10 32 "LendTown$Town" "dies" "[I" ∈ wsX10_copyFrom := List.mem_of_getElem? (i := 11) rfl
theorem fl_X10_copyFrom_35 : Cond.fieldLink RX10 35 "LendTown$Town" "limit" "[I" ∈ wsX10_copyFrom := List.mem_of_getElem? (i := 12) rfl
theorem fl_X10_copyFrom_38 : Cond.fieldLink RX10 38 "LendTown$Town" "dealNames" "[J" ∈ wsX10_copyFrom := List.mem_of_getElem? (i := 13) rfl
theorem fl_X10_copyFrom_41 : Cond.fieldLink RX10 41 "LendTown$Town" "lender" "[I" ∈ wsX10_copyFrom := List.mem_of_getElem? (i := 14) rfl
theorem fl_X10_copyFrom_44 : Cond.fieldLink RX10 44 "LendTown$Town" "borrower" "[I" ∈ wsX10_copyFrom := List.mem_of_getElem? (i := 15) rfl
theorem fl_X10_copyFrom_47 : Cond.fieldLink RX10 47 "LendTown$Town" "year" "[I" ∈ wsX10_copyFrom := List.mem_of_getElem? (i := 16) rfl
theorem fl_X10_copyFrom_50 : Cond.fieldLink RX10 50 "LendTown$Town" "lenderGain" "[I" ∈ wsX10_copyFrom := List.mem_of_getElem? (i := 17) rfl
theorem fl_X10_copyFrom_53 : Cond.fieldLink RX10 53 "LendTown$Town" "borrowerGain" "[I" ∈ wsX10_copyFrom := List.mem_of_getElem? (i := 18) rfl
theorem fl_X10_copyFrom_56 : Cond.fieldLink RX10 56 "LendTown$Town" "either" "[I" ∈ wsX10_copyFrom := List.mem_of_getElem? (i := 19) rfl
theorem fl_X10_copyFrom_59 : Cond.fieldLink RX10 59 "LendTown$Town" "byYear" "[I" ∈ wsX10_copyFrom := List.mem_of_getElem? (i := 20) rfl
theorem fl_X10_copyFrom_65 : Cond.fieldLink RX10 65 "LendTown$Town" "memo" "LLendTown$Memo;" ∈ wsX10_copyFrom := List.mem_of_getElem? (i := 21) rfl
def wd_X10_copyFrom (G : jG) (a_t : Nat) (a_t_born : Nat) (a_t_borrower : Nat) (a_t_borrowerGain : Nat) (a_t_byYear : Nat) (a_t_dealNames : Nat) (a_t_dies : Nat) (a_t_either : Nat) (a_t_lender : Nat) (a_t_lenderGain : Nat) (a_t_limit : Nat) (a_t_memo : Nat) (a_t_memo_gains : Nat) (a_t_memo_lawfulWays : Nat) (a_t_memo_rests : Nat) (a_t_personNames : Nat) (a_t_year : Nat) (a_p1 : Nat) (a_p1_born : Nat) (a_p1_borrower : Nat) (a_p1_borrowerGain : Nat) (a_p1_byYear : Nat) (a_p1_dealNames : Nat) (a_p1_dies : Nat) (a_p1_either : Nat) (a_p1_lender : Nat) (a_p1_lenderGain : Nat) (a_p1_limit : Nat) (a_p1_memo : Nat) (a_p1_memo_gains : Nat) (a_p1_memo_lawfulWays : Nat) (a_p1_memo_rests : Nat) (a_p1_personNames : Nat) (a_p1_year : Nat) (t_persons : Int32) (t_deals : Int32) (t_lawYears : Int32) (t_toldParts : Int32) (t_born : Nat → Int32) (t_borrower : Nat → Int32) (t_borrowerGain : Nat → Int32) (t_byYear : Nat → Int32) (t_dealNames : Nat → Int64) (t_dies : Nat → Int32) (t_either : Nat → Int32) (t_lender : Nat → Int32) (t_lenderGain : Nat → Int32) (t_limit : Nat → Int32) (t_memo_restCount : Int32) (t_memo_lawfulGain : Int32) (t_memo_gains : Nat → Int32) (t_memo_lawfulWays : Nat → Int32) (t_memo_rests : Nat → Int32) (t_personNames : Nat → Int64) (t_year : Nat → Int32) (p1_persons : Int32) (p1_deals : Int32) (p1_lawYears : Int32) (p1_toldParts : Int32) (p1_born : Nat → Int32) (p1_borrower : Nat → Int32) (p1_borrowerGain : Nat → Int32) (p1_byYear : Nat → Int32) (p1_dealNames : Nat → Int64) (p1_dies : Nat → Int32) (p1_either : Nat → Int32) (p1_lender : Nat → Int32) (p1_lenderGain : Nat → Int32) (p1_limit : Nat → Int32) (p1_memo_restCount : Int32) (p1_memo_lawfulGain : Int32) (p1_memo_gains : Nat → Int32) (p1_memo_lawfulWays : Nat → Int32) (p1_memo_rests : Nat → Int32) (p1_personNames : Nat → Int64) (p1_year : Nat → Int32) : va_W := [(a_t, .inr (10, [.int t_persons, .int t_deals, .int t_lawYears, .int t_toldParts, .ref a_t_personNames, .ref a_t_born, .ref a_t_dies, .ref a_t_limit, .ref a_t_dealNames, .ref a_t_lender, .ref a_t_borrower, .ref a_t_year, .ref a_t_lenderGain, .ref a_t_borrowerGain, .ref a_t_either, .ref a_t_byYear, .ref a_t_memo])), (a_t_born, .inl (G.2.2.1, 10, .inl t_born)), (a_t_borrower, .inl (G.2.2.1, 30, .inl t_borrower)), (a_t_borrowerGain, .inl (G.2.2.1, 30, .inl t_borrowerGain)), (a_t_byYear, .inl (G.2.2.1, 30, .inl t_byYear)), (a_t_dealNames, .inl (G.2.2.2.1, 30, .inr (.inl t_dealNames))), (a_t_dies, .inl (G.2.2.1, 10, .inl t_dies)), (a_t_either, .inl (G.2.2.1, 30, .inl t_either)), (a_t_lender, .inl (G.2.2.1, 30, .inl t_lender)), (a_t_lenderGain, .inl (G.2.2.1, 30, .inl t_lenderGain)), (a_t_limit, .inl (G.2.2.1, 10, .inl t_limit)), (a_t_memo, .inr (5, [.ref a_t_memo_gains, .ref a_t_memo_rests, .int t_memo_restCount, .ref a_t_memo_lawfulWays, .int t_memo_lawfulGain])), (a_t_memo_gains, .inl (G.2.2.1, 1024, .inl t_memo_gains)), (a_t_memo_lawfulWays, .inl (G.2.2.1, 12, .inl t_memo_lawfulWays)), (a_t_memo_rests, .inl (G.2.2.1, 1024, .inl t_memo_rests)), (a_t_personNames, .inl (G.2.2.2.1, 10, .inr (.inl t_personNames))), (a_t_year, .inl (G.2.2.1, 30, .inl t_year)), (a_p1, .inr (10, [.int p1_persons, .int p1_deals, .int p1_lawYears, .int p1_toldParts, .ref a_p1_personNames, .ref a_p1_born, .ref a_p1_dies, .ref a_p1_limit, .ref a_p1_dealNames, .ref a_p1_lender, .ref a_p1_borrower, .ref a_p1_year, .ref a_p1_lenderGain, .ref a_p1_borrowerGain, .ref a_p1_either, .ref a_p1_byYear, .ref a_p1_memo])), (a_p1_born, .inl (G.2.2.1, 10, .inl p1_born)), (a_p1_borrower, .inl (G.2.2.1, 30, .inl p1_borrower)), (a_p1_borrowerGain, .inl (G.2.2.1, 30, .inl p1_borrowerGain)), (a_p1_byYear, .inl (G.2.2.1, 30, .inl p1_byYear)), (a_p1_dealNames, .inl (G.2.2.2.1, 30, .inr (.inl p1_dealNames))), (a_p1_dies, .inl (G.2.2.1, 10, .inl p1_dies)), (a_p1_either, .inl (G.2.2.1, 30, .inl p1_either)), (a_p1_lender, .inl (G.2.2.1, 30, .inl p1_lender)), (a_p1_lenderGain, .inl (G.2.2.1, 30, .inl p1_lenderGain)), (a_p1_limit, .inl (G.2.2.1, 10, .inl p1_limit)), (a_p1_memo, .inr (5, [.ref a_p1_memo_gains, .ref a_p1_memo_rests, .int p1_memo_restCount, .ref a_p1_memo_lawfulWays, .int p1_memo_lawfulGain])), (a_p1_memo_gains, .inl (G.2.2.1, 1024, .inl p1_memo_gains)), (a_p1_memo_lawfulWays, .inl (G.2.2.1, 12, .inl p1_memo_lawfulWays)), (a_p1_memo_rests, .inl (G.2.2.1, 1024, .inl p1_memo_rests)), (a_p1_personNames, .inl (G.2.2.2.1, 10, .inr (.inl p1_personNames))), (a_p1_year, .inl (G.2.2.1, 30, .inl p1_year))]
set_option maxHeartbeats 8000000 in
set_option maxRecDepth 100000 in
theorem ct_X10_copyFrom (l : Launch) (G : jG) (a_t : Nat) (a_t_born : Nat) (a_t_borrower : Nat) (a_t_borrowerGain : Nat) (a_t_byYear : Nat) (a_t_dealNames : Nat) (a_t_dies : Nat) (a_t_either : Nat) (a_t_lender : Nat) (a_t_lenderGain : Nat) (a_t_limit : Nat) (a_t_memo : Nat) (a_t_memo_gains : Nat) (a_t_memo_lawfulWays : Nat) (a_t_memo_rests : Nat) (a_t_personNames : Nat) (a_t_year : Nat) (a_p1 : Nat) (a_p1_born : Nat) (a_p1_borrower : Nat) (a_p1_borrowerGain : Nat) (a_p1_byYear : Nat) (a_p1_dealNames : Nat) (a_p1_dies : Nat) (a_p1_either : Nat) (a_p1_lender : Nat) (a_p1_lenderGain : Nat) (a_p1_limit : Nat) (a_p1_memo : Nat) (a_p1_memo_gains : Nat) (a_p1_memo_lawfulWays : Nat) (a_p1_memo_rests : Nat) (a_p1_personNames : Nat) (a_p1_year : Nat) (t_persons : Int32) (t_deals : Int32) (t_lawYears : Int32) (t_toldParts : Int32) (t_born : Nat → Int32) (t_borrower : Nat → Int32) (t_borrowerGain : Nat → Int32) (t_byYear : Nat → Int32) (t_dealNames : Nat → Int64) (t_dies : Nat → Int32) (t_either : Nat → Int32) (t_lender : Nat → Int32) (t_lenderGain : Nat → Int32) (t_limit : Nat → Int32) (t_memo_restCount : Int32) (t_memo_lawfulGain : Int32) (t_memo_gains : Nat → Int32) (t_memo_lawfulWays : Nat → Int32) (t_memo_rests : Nat → Int32) (t_personNames : Nat → Int64) (t_year : Nat → Int32) (p1_persons : Int32) (p1_deals : Int32) (p1_lawYears : Int32) (p1_toldParts : Int32) (p1_born : Nat → Int32) (p1_borrower : Nat → Int32) (p1_borrowerGain : Nat → Int32) (p1_byYear : Nat → Int32) (p1_dealNames : Nat → Int64) (p1_dies : Nat → Int32) (p1_either : Nat → Int32) (p1_lender : Nat → Int32) (p1_lenderGain : Nat → Int32) (p1_limit : Nat → Int32) (p1_memo_restCount : Int32) (p1_memo_lawfulGain : Int32) (p1_memo_gains : Nat → Int32) (p1_memo_lawfulWays : Nat → Int32) (p1_memo_rests : Nat → Int32) (p1_personNames : Nat → Int64) (p1_year : Nat → Int32)  (r : Int32 × Int32 × Int32 × Int32 × (Nat → Int64) × (Nat → Int32) × (Nat → Int32) × (Nat → Int32) × (Nat → Int64) × (Nat → Int32) × (Nat → Int32) × (Nat → Int32) × (Nat → Int32) × (Nat → Int32) × (Nat → Int32) × (Nat → Int32) × (Nat → Int32) × (Nat → Int32) × (Nat → Int32) × Int32 × Int32) (hd : dn_X10_copyFrom t_born t_borrower t_borrowerGain t_byYear t_dealNames t_dies t_either t_lender t_lenderGain t_limit t_memo_gains t_memo_lawfulWays t_memo_rests t_personNames t_year p1_persons p1_deals p1_lawYears p1_toldParts p1_born p1_borrower p1_borrowerGain p1_byYear p1_dealNames p1_dies p1_either p1_lender p1_lenderGain p1_limit p1_memo_restCount p1_memo_lawfulGain p1_memo_gains p1_memo_lawfulWays p1_memo_rests p1_personNames p1_year = some r) : jM l G yX10_copyFrom wsX10_copyFrom rm_X10_copyFrom [.ref a_t, .ref a_p1] (wd_X10_copyFrom G a_t a_t_born a_t_borrower a_t_borrowerGain a_t_byYear a_t_dealNames a_t_dies a_t_either a_t_lender a_t_lenderGain a_t_limit a_t_memo a_t_memo_gains a_t_memo_lawfulWays a_t_memo_rests a_t_personNames a_t_year a_p1 a_p1_born a_p1_borrower a_p1_borrowerGain a_p1_byYear a_p1_dealNames a_p1_dies a_p1_either a_p1_lender a_p1_lenderGain a_p1_limit a_p1_memo a_p1_memo_gains a_p1_memo_lawfulWays a_p1_memo_rests a_p1_personNames a_p1_year t_persons t_deals t_lawYears t_toldParts t_born t_borrower t_borrowerGain t_byYear t_dealNames t_dies t_either t_lender t_lenderGain t_limit t_memo_restCount t_memo_lawfulGain t_memo_gains t_memo_lawfulWays t_memo_rests t_personNames t_year p1_persons p1_deals p1_lawYears p1_toldParts p1_born p1_borrower p1_borrowerGain p1_byYear p1_dealNames p1_dies p1_either p1_lender p1_lenderGain p1_limit p1_memo_restCount p1_memo_lawfulGain p1_memo_gains p1_memo_lawfulWays p1_memo_rests p1_personNames p1_year) none (wd_X10_copyFrom G a_t a_t_born a_t_borrower a_t_borrowerGain a_t_byYear a_t_dealNames a_t_dies a_t_either a_t_lender a_t_lenderGain a_t_limit a_t_memo a_t_memo_gains a_t_memo_lawfulWays a_t_memo_rests a_t_personNames a_t_year a_p1 a_p1_born a_p1_borrower a_p1_borrowerGain a_p1_byYear a_p1_dealNames a_p1_dies a_p1_either a_p1_lender a_p1_lenderGain a_p1_limit a_p1_memo a_p1_memo_gains a_p1_memo_lawfulWays a_p1_memo_rests a_p1_personNames a_p1_year r.1 r.2.1 r.2.2.1 r.2.2.2.1 r.2.2.2.2.2.1 r.2.2.2.2.2.2.2.2.2.2.1 r.2.2.2.2.2.2.2.2.2.2.2.2.2.1 r.2.2.2.2.2.2.2.2.2.2.2.2.2.2.2.1 r.2.2.2.2.2.2.2.2.1 r.2.2.2.2.2.2.1 r.2.2.2.2.2.2.2.2.2.2.2.2.2.2.1 r.2.2.2.2.2.2.2.2.2.1 r.2.2.2.2.2.2.2.2.2.2.2.2.1 r.2.2.2.2.2.2.2.1 r.2.2.2.2.2.2.2.2.2.2.2.2.2.2.2.2.2.2.2.1 r.2.2.2.2.2.2.2.2.2.2.2.2.2.2.2.2.2.2.2.2 r.2.2.2.2.2.2.2.2.2.2.2.2.2.2.2.2.1 r.2.2.2.2.2.2.2.2.2.2.2.2.2.2.2.2.2.2.1 r.2.2.2.2.2.2.2.2.2.2.2.2.2.2.2.2.2.1 r.2.2.2.2.1 r.2.2.2.2.2.2.2.2.2.2.2.1 p1_persons p1_deals p1_lawYears p1_toldParts p1_born p1_borrower p1_borrowerGain p1_byYear p1_dealNames p1_dies p1_either p1_lender p1_lenderGain p1_limit p1_memo_restCount p1_memo_lawfulGain p1_memo_gains p1_memo_lawfulWays p1_memo_rests p1_personNames p1_year) := by
  refine jM_of (own := RX10) (by decide) rfl rfl rfl (Nat.le_of_ble_eq_true rfl) (lv0 := [(0, .ref a_t), (1, .ref a_p1)]) rfl (fun X C hE => ?_)
  unfold dn_X10_copyFrom at hd
  refine j_aload_n (pc := 0) C dX10_copyFrom_0 rfl 0 rfl ?_
  refine j_aload_n (pc := 1) C dX10_copyFrom_1 rfl 1 rfl ?_
  refine j_get (pc := 2) (q0 := 17) (ci := 10) (kf := 0) C dX10_copyFrom_2 in_X10_copyFrom_X10 rfl (by decide) fl_X10_copyFrom_9 rfl rfl ?_
  refine j_put (pc := 5) (q0 := 0) (ci := 10) (kf := 0) (ws2 := wd_X10_copyFrom G a_t a_t_born a_t_borrower a_t_borrowerGain a_t_byYear a_t_dealNames a_t_dies a_t_either a_t_lender a_t_lenderGain a_t_limit a_t_memo a_t_memo_gains a_t_memo_lawfulWays a_t_memo_rests a_t_personNames a_t_year a_p1 a_p1_born a_p1_borrower a_p1_borrowerGain a_p1_byYear a_p1_dealNames a_p1_dies a_p1_either a_p1_lender a_p1_lenderGain a_p1_limit a_p1_memo a_p1_memo_gains a_p1_memo_lawfulWays a_p1_memo_rests a_p1_personNames a_p1_year p1_persons t_deals t_lawYears t_toldParts t_born t_borrower t_borrowerGain t_byYear t_dealNames t_dies t_either t_lender t_lenderGain t_limit t_memo_restCount t_memo_lawfulGain t_memo_gains t_memo_lawfulWays t_memo_rests t_personNames t_year p1_persons p1_deals p1_lawYears p1_toldParts p1_born p1_borrower p1_borrowerGain p1_byYear p1_dealNames p1_dies p1_either p1_lender p1_lenderGain p1_limit p1_memo_restCount p1_memo_lawfulGain p1_memo_gains p1_memo_lawfulWays p1_memo_rests p1_personNames p1_year) C dX10_copyFrom_5 in_X10_copyFrom_X10 tyX10 tyX10_ok nmX10 rfl (by decide) fl_X10_copyFrom_9 rfl rfl rfl rfl (Nat.le_of_ble_eq_true rfl) rfl ?_
  refine j_aload_n (pc := 8) C dX10_copyFrom_8 rfl 0 rfl ?_
  refine j_aload_n (pc := 9) C dX10_copyFrom_9 rfl 1 rfl ?_
  refine j_get (pc := 10) (q0 := 17) (ci := 10) (kf := 1) C dX10_copyFrom_10 in_X10_copyFrom_X10 rfl (by decide) fl_X10_copyFrom_15 rfl rfl ?_
  refine j_put (pc := 13) (q0 := 0) (ci := 10) (kf := 1) (ws2 := wd_X10_copyFrom G a_t a_t_born a_t_borrower a_t_borrowerGain a_t_byYear a_t_dealNames a_t_dies a_t_either a_t_lender a_t_lenderGain a_t_limit a_t_memo a_t_memo_gains a_t_memo_lawfulWays a_t_memo_rests a_t_personNames a_t_year a_p1 a_p1_born a_p1_borrower a_p1_borrowerGain a_p1_byYear a_p1_dealNames a_p1_dies a_p1_either a_p1_lender a_p1_lenderGain a_p1_limit a_p1_memo a_p1_memo_gains a_p1_memo_lawfulWays a_p1_memo_rests a_p1_personNames a_p1_year p1_persons p1_deals t_lawYears t_toldParts t_born t_borrower t_borrowerGain t_byYear t_dealNames t_dies t_either t_lender t_lenderGain t_limit t_memo_restCount t_memo_lawfulGain t_memo_gains t_memo_lawfulWays t_memo_rests t_personNames t_year p1_persons p1_deals p1_lawYears p1_toldParts p1_born p1_borrower p1_borrowerGain p1_byYear p1_dealNames p1_dies p1_either p1_lender p1_lenderGain p1_limit p1_memo_restCount p1_memo_lawfulGain p1_memo_gains p1_memo_lawfulWays p1_memo_rests p1_personNames p1_year) C dX10_copyFrom_13 in_X10_copyFrom_X10 tyX10 tyX10_ok nmX10 rfl (by decide) fl_X10_copyFrom_15 rfl rfl rfl rfl (Nat.le_of_ble_eq_true rfl) rfl ?_
  refine j_aload_n (pc := 16) C dX10_copyFrom_16 rfl 0 rfl ?_
  refine j_aload_n (pc := 17) C dX10_copyFrom_17 rfl 1 rfl ?_
  refine j_get (pc := 18) (q0 := 17) (ci := 10) (kf := 2) C dX10_copyFrom_18 in_X10_copyFrom_X10 rfl (by decide) fl_X10_copyFrom_18 rfl rfl ?_
  refine j_put (pc := 21) (q0 := 0) (ci := 10) (kf := 2) (ws2 := wd_X10_copyFrom G a_t a_t_born a_t_borrower a_t_borrowerGain a_t_byYear a_t_dealNames a_t_dies a_t_either a_t_lender a_t_lenderGain a_t_limit a_t_memo a_t_memo_gains a_t_memo_lawfulWays a_t_memo_rests a_t_personNames a_t_year a_p1 a_p1_born a_p1_borrower a_p1_borrowerGain a_p1_byYear a_p1_dealNames a_p1_dies a_p1_either a_p1_lender a_p1_lenderGain a_p1_limit a_p1_memo a_p1_memo_gains a_p1_memo_lawfulWays a_p1_memo_rests a_p1_personNames a_p1_year p1_persons p1_deals p1_lawYears t_toldParts t_born t_borrower t_borrowerGain t_byYear t_dealNames t_dies t_either t_lender t_lenderGain t_limit t_memo_restCount t_memo_lawfulGain t_memo_gains t_memo_lawfulWays t_memo_rests t_personNames t_year p1_persons p1_deals p1_lawYears p1_toldParts p1_born p1_borrower p1_borrowerGain p1_byYear p1_dealNames p1_dies p1_either p1_lender p1_lenderGain p1_limit p1_memo_restCount p1_memo_lawfulGain p1_memo_gains p1_memo_lawfulWays p1_memo_rests p1_personNames p1_year) C dX10_copyFrom_21 in_X10_copyFrom_X10 tyX10 tyX10_ok nmX10 rfl (by decide) fl_X10_copyFrom_18 rfl rfl rfl rfl (Nat.le_of_ble_eq_true rfl) rfl ?_
  refine j_aload_n (pc := 24) C dX10_copyFrom_24 rfl 0 rfl ?_
  refine j_aload_n (pc := 25) C dX10_copyFrom_25 rfl 1 rfl ?_
  refine j_get (pc := 26) (q0 := 17) (ci := 10) (kf := 3) C dX10_copyFrom_26 in_X10_copyFrom_X10 rfl (by decide) fl_X10_copyFrom_21 rfl rfl ?_
  refine j_put (pc := 29) (q0 := 0) (ci := 10) (kf := 3) (ws2 := wd_X10_copyFrom G a_t a_t_born a_t_borrower a_t_borrowerGain a_t_byYear a_t_dealNames a_t_dies a_t_either a_t_lender a_t_lenderGain a_t_limit a_t_memo a_t_memo_gains a_t_memo_lawfulWays a_t_memo_rests a_t_personNames a_t_year a_p1 a_p1_born a_p1_borrower a_p1_borrowerGain a_p1_byYear a_p1_dealNames a_p1_dies a_p1_either a_p1_lender a_p1_lenderGain a_p1_limit a_p1_memo a_p1_memo_gains a_p1_memo_lawfulWays a_p1_memo_rests a_p1_personNames a_p1_year p1_persons p1_deals p1_lawYears p1_toldParts t_born t_borrower t_borrowerGain t_byYear t_dealNames t_dies t_either t_lender t_lenderGain t_limit t_memo_restCount t_memo_lawfulGain t_memo_gains t_memo_lawfulWays t_memo_rests t_personNames t_year p1_persons p1_deals p1_lawYears p1_toldParts p1_born p1_borrower p1_borrowerGain p1_byYear p1_dealNames p1_dies p1_either p1_lender p1_lenderGain p1_limit p1_memo_restCount p1_memo_lawfulGain p1_memo_gains p1_memo_lawfulWays p1_memo_rests p1_personNames p1_year) C dX10_copyFrom_29 in_X10_copyFrom_X10 tyX10 tyX10_ok nmX10 rfl (by decide) fl_X10_copyFrom_21 rfl rfl rfl rfl (Nat.le_of_ble_eq_true rfl) rfl ?_
  refine j_aload_n (pc := 32) C dX10_copyFrom_32 rfl 1 rfl ?_
  refine j_get (pc := 33) (q0 := 17) (ci := 10) (kf := 4) C dX10_copyFrom_33 in_X10_copyFrom_X10 rfl (by decide) fl_X10_copyFrom_24 rfl rfl ?_
  refine j_iconst (pc := 36) (v := 0) C dX10_copyFrom_36 jk_I0 ?_
  refine j_aload_n (pc := 37) C dX10_copyFrom_37 rfl 0 rfl ?_
  refine j_get (pc := 38) (q0 := 0) (ci := 10) (kf := 4) C dX10_copyFrom_38 in_X10_copyFrom_X10 rfl (by decide) fl_X10_copyFrom_24 rfl rfl ?_
  refine j_iconst (pc := 41) (v := 0) C dX10_copyFrom_41 jk_I0 ?_
  refine j_bipush (pc := 42) (v := 10) C dX10_copyFrom_42 jk_B10 ?_
  refine j_copyl (pc := 44) (q0 := 32) (q1 := 15) (ws2 := wd_X10_copyFrom G a_t a_t_born a_t_borrower a_t_borrowerGain a_t_byYear a_t_dealNames a_t_dies a_t_either a_t_lender a_t_lenderGain a_t_limit a_t_memo a_t_memo_gains a_t_memo_lawfulWays a_t_memo_rests a_t_personNames a_t_year a_p1 a_p1_born a_p1_borrower a_p1_borrowerGain a_p1_byYear a_p1_dealNames a_p1_dies a_p1_either a_p1_lender a_p1_lenderGain a_p1_limit a_p1_memo a_p1_memo_gains a_p1_memo_lawfulWays a_p1_memo_rests a_p1_personNames a_p1_year p1_persons p1_deals p1_lawYears p1_toldParts t_born t_borrower t_borrowerGain t_byYear t_dealNames t_dies t_either t_lender t_lenderGain t_limit t_memo_restCount t_memo_lawfulGain t_memo_gains t_memo_lawfulWays t_memo_rests (va_cpy p1_personNames t_personNames (0 : Int32).toNatClampNeg (0 : Int32).toNatClampNeg (10 : Int32).toNatClampNeg) t_year p1_persons p1_deals p1_lawYears p1_toldParts p1_born p1_borrower p1_borrowerGain p1_byYear p1_dealNames p1_dies p1_either p1_lender p1_lenderGain p1_limit p1_memo_restCount p1_memo_lawfulGain p1_memo_gains p1_memo_lawfulWays p1_memo_rests p1_personNames p1_year) C dX10_copyFrom_44 (List.mem_of_getElem? (i := 6) rfl) (List.mem_of_getElem? (i := 7) rfl) (List.mem_of_getElem? (i := 8) rfl) (List.mem_of_getElem? (i := 9) rfl) rfl rfl (by decide) (by decide) (by decide) (by decide) (by decide) (by decide) (Nat.le_of_ble_eq_true rfl) rfl ?_
  refine j_aload_n (pc := 47) C dX10_copyFrom_47 rfl 1 rfl ?_
  refine j_get (pc := 48) (q0 := 17) (ci := 10) (kf := 5) C dX10_copyFrom_48 in_X10_copyFrom_X10 rfl (by decide) fl_X10_copyFrom_28 rfl rfl ?_
  refine j_iconst (pc := 51) (v := 0) C dX10_copyFrom_51 jk_I0 ?_
  refine j_aload_n (pc := 52) C dX10_copyFrom_52 rfl 0 rfl ?_
  refine j_get (pc := 53) (q0 := 0) (ci := 10) (kf := 5) C dX10_copyFrom_53 in_X10_copyFrom_X10 rfl (by decide) fl_X10_copyFrom_28 rfl rfl ?_
  refine j_iconst (pc := 56) (v := 0) C dX10_copyFrom_56 jk_I0 ?_
  refine j_bipush (pc := 57) (v := 10) C dX10_copyFrom_57 jk_B10 ?_
  refine j_copyi (pc := 59) (q0 := 18) (q1 := 1) (ws2 := wd_X10_copyFrom G a_t a_t_born a_t_borrower a_t_borrowerGain a_t_byYear a_t_dealNames a_t_dies a_t_either a_t_lender a_t_lenderGain a_t_limit a_t_memo a_t_memo_gains a_t_memo_lawfulWays a_t_memo_rests a_t_personNames a_t_year a_p1 a_p1_born a_p1_borrower a_p1_borrowerGain a_p1_byYear a_p1_dealNames a_p1_dies a_p1_either a_p1_lender a_p1_lenderGain a_p1_limit a_p1_memo a_p1_memo_gains a_p1_memo_lawfulWays a_p1_memo_rests a_p1_personNames a_p1_year p1_persons p1_deals p1_lawYears p1_toldParts (va_cpy p1_born t_born (0 : Int32).toNatClampNeg (0 : Int32).toNatClampNeg (10 : Int32).toNatClampNeg) t_borrower t_borrowerGain t_byYear t_dealNames t_dies t_either t_lender t_lenderGain t_limit t_memo_restCount t_memo_lawfulGain t_memo_gains t_memo_lawfulWays t_memo_rests (va_cpy p1_personNames t_personNames (0 : Int32).toNatClampNeg (0 : Int32).toNatClampNeg (10 : Int32).toNatClampNeg) t_year p1_persons p1_deals p1_lawYears p1_toldParts p1_born p1_borrower p1_borrowerGain p1_byYear p1_dealNames p1_dies p1_either p1_lender p1_lenderGain p1_limit p1_memo_restCount p1_memo_lawfulGain p1_memo_gains p1_memo_lawfulWays p1_memo_rests p1_personNames p1_year) C dX10_copyFrom_59 (List.mem_of_getElem? (i := 6) rfl) (List.mem_of_getElem? (i := 7) rfl) (List.mem_of_getElem? (i := 8) rfl) (List.mem_of_getElem? (i := 9) rfl) rfl rfl (by decide) (by decide) (by decide) (by decide) (by decide) (by decide) (Nat.le_of_ble_eq_true rfl) rfl ?_
  refine j_aload_n (pc := 62) C dX10_copyFrom_62 rfl 1 rfl ?_
  refine j_get (pc := 63) (q0 := 17) (ci := 10) (kf := 6) C dX10_copyFrom_63 in_X10_copyFrom_X10 rfl (by decide) fl_X10_copyFrom_32 rfl rfl ?_
  refine j_iconst (pc := 66) (v := 0) C dX10_copyFrom_66 jk_I0 ?_
  refine j_aload_n (pc := 67) C dX10_copyFrom_67 rfl 0 rfl ?_
  refine j_get (pc := 68) (q0 := 0) (ci := 10) (kf := 6) C dX10_copyFrom_68 in_X10_copyFrom_X10 rfl (by decide) fl_X10_copyFrom_32 rfl rfl ?_
  refine j_iconst (pc := 71) (v := 0) C dX10_copyFrom_71 jk_I0 ?_
  refine j_bipush (pc := 72) (v := 10) C dX10_copyFrom_72 jk_B10 ?_
  refine j_copyi (pc := 74) (q0 := 23) (q1 := 6) (ws2 := wd_X10_copyFrom G a_t a_t_born a_t_borrower a_t_borrowerGain a_t_byYear a_t_dealNames a_t_dies a_t_either a_t_lender a_t_lenderGain a_t_limit a_t_memo a_t_memo_gains a_t_memo_lawfulWays a_t_memo_rests a_t_personNames a_t_year a_p1 a_p1_born a_p1_borrower a_p1_borrowerGain a_p1_byYear a_p1_dealNames a_p1_dies a_p1_either a_p1_lender a_p1_lenderGain a_p1_limit a_p1_memo a_p1_memo_gains a_p1_memo_lawfulWays a_p1_memo_rests a_p1_personNames a_p1_year p1_persons p1_deals p1_lawYears p1_toldParts (va_cpy p1_born t_born (0 : Int32).toNatClampNeg (0 : Int32).toNatClampNeg (10 : Int32).toNatClampNeg) t_borrower t_borrowerGain t_byYear t_dealNames (va_cpy p1_dies t_dies (0 : Int32).toNatClampNeg (0 : Int32).toNatClampNeg (10 : Int32).toNatClampNeg) t_either t_lender t_lenderGain t_limit t_memo_restCount t_memo_lawfulGain t_memo_gains t_memo_lawfulWays t_memo_rests (va_cpy p1_personNames t_personNames (0 : Int32).toNatClampNeg (0 : Int32).toNatClampNeg (10 : Int32).toNatClampNeg) t_year p1_persons p1_deals p1_lawYears p1_toldParts p1_born p1_borrower p1_borrowerGain p1_byYear p1_dealNames p1_dies p1_either p1_lender p1_lenderGain p1_limit p1_memo_restCount p1_memo_lawfulGain p1_memo_gains p1_memo_lawfulWays p1_memo_rests p1_personNames p1_year) C dX10_copyFrom_74 (List.mem_of_getElem? (i := 6) rfl) (List.mem_of_getElem? (i := 7) rfl) (List.mem_of_getElem? (i := 8) rfl) (List.mem_of_getElem? (i := 9) rfl) rfl rfl (by decide) (by decide) (by decide) (by decide) (by decide) (by decide) (Nat.le_of_ble_eq_true rfl) rfl ?_
  refine j_aload_n (pc := 77) C dX10_copyFrom_77 rfl 1 rfl ?_
  refine j_get (pc := 78) (q0 := 17) (ci := 10) (kf := 7) C dX10_copyFrom_78 in_X10_copyFrom_X10 rfl (by decide) fl_X10_copyFrom_35 rfl rfl ?_
  refine j_iconst (pc := 81) (v := 0) C dX10_copyFrom_81 jk_I0 ?_
  refine j_aload_n (pc := 82) C dX10_copyFrom_82 rfl 0 rfl ?_
  refine j_get (pc := 83) (q0 := 0) (ci := 10) (kf := 7) C dX10_copyFrom_83 in_X10_copyFrom_X10 rfl (by decide) fl_X10_copyFrom_35 rfl rfl ?_
  refine j_iconst (pc := 86) (v := 0) C dX10_copyFrom_86 jk_I0 ?_
  refine j_bipush (pc := 87) (v := 10) C dX10_copyFrom_87 jk_B10 ?_
  refine j_copyi (pc := 89) (q0 := 27) (q1 := 10) (ws2 := wd_X10_copyFrom G a_t a_t_born a_t_borrower a_t_borrowerGain a_t_byYear a_t_dealNames a_t_dies a_t_either a_t_lender a_t_lenderGain a_t_limit a_t_memo a_t_memo_gains a_t_memo_lawfulWays a_t_memo_rests a_t_personNames a_t_year a_p1 a_p1_born a_p1_borrower a_p1_borrowerGain a_p1_byYear a_p1_dealNames a_p1_dies a_p1_either a_p1_lender a_p1_lenderGain a_p1_limit a_p1_memo a_p1_memo_gains a_p1_memo_lawfulWays a_p1_memo_rests a_p1_personNames a_p1_year p1_persons p1_deals p1_lawYears p1_toldParts (va_cpy p1_born t_born (0 : Int32).toNatClampNeg (0 : Int32).toNatClampNeg (10 : Int32).toNatClampNeg) t_borrower t_borrowerGain t_byYear t_dealNames (va_cpy p1_dies t_dies (0 : Int32).toNatClampNeg (0 : Int32).toNatClampNeg (10 : Int32).toNatClampNeg) t_either t_lender t_lenderGain (va_cpy p1_limit t_limit (0 : Int32).toNatClampNeg (0 : Int32).toNatClampNeg (10 : Int32).toNatClampNeg) t_memo_restCount t_memo_lawfulGain t_memo_gains t_memo_lawfulWays t_memo_rests (va_cpy p1_personNames t_personNames (0 : Int32).toNatClampNeg (0 : Int32).toNatClampNeg (10 : Int32).toNatClampNeg) t_year p1_persons p1_deals p1_lawYears p1_toldParts p1_born p1_borrower p1_borrowerGain p1_byYear p1_dealNames p1_dies p1_either p1_lender p1_lenderGain p1_limit p1_memo_restCount p1_memo_lawfulGain p1_memo_gains p1_memo_lawfulWays p1_memo_rests p1_personNames p1_year) C dX10_copyFrom_89 (List.mem_of_getElem? (i := 6) rfl) (List.mem_of_getElem? (i := 7) rfl) (List.mem_of_getElem? (i := 8) rfl) (List.mem_of_getElem? (i := 9) rfl) rfl rfl (by decide) (by decide) (by decide) (by decide) (by decide) (by decide) (Nat.le_of_ble_eq_true rfl) rfl ?_
  refine j_aload_n (pc := 92) C dX10_copyFrom_92 rfl 1 rfl ?_
  refine j_get (pc := 93) (q0 := 17) (ci := 10) (kf := 8) C dX10_copyFrom_93 in_X10_copyFrom_X10 rfl (by decide) fl_X10_copyFrom_38 rfl rfl ?_
  refine j_iconst (pc := 96) (v := 0) C dX10_copyFrom_96 jk_I0 ?_
  refine j_aload_n (pc := 97) C dX10_copyFrom_97 rfl 0 rfl ?_
  refine j_get (pc := 98) (q0 := 0) (ci := 10) (kf := 8) C dX10_copyFrom_98 in_X10_copyFrom_X10 rfl (by decide) fl_X10_copyFrom_38 rfl rfl ?_
  refine j_iconst (pc := 101) (v := 0) C dX10_copyFrom_101 jk_I0 ?_
  refine j_bipush (pc := 102) (v := 30) C dX10_copyFrom_102 jk_B30 ?_
  refine j_copyl (pc := 104) (q0 := 22) (q1 := 5) (ws2 := wd_X10_copyFrom G a_t a_t_born a_t_borrower a_t_borrowerGain a_t_byYear a_t_dealNames a_t_dies a_t_either a_t_lender a_t_lenderGain a_t_limit a_t_memo a_t_memo_gains a_t_memo_lawfulWays a_t_memo_rests a_t_personNames a_t_year a_p1 a_p1_born a_p1_borrower a_p1_borrowerGain a_p1_byYear a_p1_dealNames a_p1_dies a_p1_either a_p1_lender a_p1_lenderGain a_p1_limit a_p1_memo a_p1_memo_gains a_p1_memo_lawfulWays a_p1_memo_rests a_p1_personNames a_p1_year p1_persons p1_deals p1_lawYears p1_toldParts (va_cpy p1_born t_born (0 : Int32).toNatClampNeg (0 : Int32).toNatClampNeg (10 : Int32).toNatClampNeg) t_borrower t_borrowerGain t_byYear (va_cpy p1_dealNames t_dealNames (0 : Int32).toNatClampNeg (0 : Int32).toNatClampNeg (30 : Int32).toNatClampNeg) (va_cpy p1_dies t_dies (0 : Int32).toNatClampNeg (0 : Int32).toNatClampNeg (10 : Int32).toNatClampNeg) t_either t_lender t_lenderGain (va_cpy p1_limit t_limit (0 : Int32).toNatClampNeg (0 : Int32).toNatClampNeg (10 : Int32).toNatClampNeg) t_memo_restCount t_memo_lawfulGain t_memo_gains t_memo_lawfulWays t_memo_rests (va_cpy p1_personNames t_personNames (0 : Int32).toNatClampNeg (0 : Int32).toNatClampNeg (10 : Int32).toNatClampNeg) t_year p1_persons p1_deals p1_lawYears p1_toldParts p1_born p1_borrower p1_borrowerGain p1_byYear p1_dealNames p1_dies p1_either p1_lender p1_lenderGain p1_limit p1_memo_restCount p1_memo_lawfulGain p1_memo_gains p1_memo_lawfulWays p1_memo_rests p1_personNames p1_year) C dX10_copyFrom_104 (List.mem_of_getElem? (i := 6) rfl) (List.mem_of_getElem? (i := 7) rfl) (List.mem_of_getElem? (i := 8) rfl) (List.mem_of_getElem? (i := 9) rfl) rfl rfl (by decide) (by decide) (by decide) (by decide) (by decide) (by decide) (Nat.le_of_ble_eq_true rfl) rfl ?_
  refine j_aload_n (pc := 107) C dX10_copyFrom_107 rfl 1 rfl ?_
  refine j_get (pc := 108) (q0 := 17) (ci := 10) (kf := 9) C dX10_copyFrom_108 in_X10_copyFrom_X10 rfl (by decide) fl_X10_copyFrom_41 rfl rfl ?_
  refine j_iconst (pc := 111) (v := 0) C dX10_copyFrom_111 jk_I0 ?_
  refine j_aload_n (pc := 112) C dX10_copyFrom_112 rfl 0 rfl ?_
  refine j_get (pc := 113) (q0 := 0) (ci := 10) (kf := 9) C dX10_copyFrom_113 in_X10_copyFrom_X10 rfl (by decide) fl_X10_copyFrom_41 rfl rfl ?_
  refine j_iconst (pc := 116) (v := 0) C dX10_copyFrom_116 jk_I0 ?_
  refine j_bipush (pc := 117) (v := 30) C dX10_copyFrom_117 jk_B30 ?_
  refine j_copyi (pc := 119) (q0 := 25) (q1 := 8) (ws2 := wd_X10_copyFrom G a_t a_t_born a_t_borrower a_t_borrowerGain a_t_byYear a_t_dealNames a_t_dies a_t_either a_t_lender a_t_lenderGain a_t_limit a_t_memo a_t_memo_gains a_t_memo_lawfulWays a_t_memo_rests a_t_personNames a_t_year a_p1 a_p1_born a_p1_borrower a_p1_borrowerGain a_p1_byYear a_p1_dealNames a_p1_dies a_p1_either a_p1_lender a_p1_lenderGain a_p1_limit a_p1_memo a_p1_memo_gains a_p1_memo_lawfulWays a_p1_memo_rests a_p1_personNames a_p1_year p1_persons p1_deals p1_lawYears p1_toldParts (va_cpy p1_born t_born (0 : Int32).toNatClampNeg (0 : Int32).toNatClampNeg (10 : Int32).toNatClampNeg) t_borrower t_borrowerGain t_byYear (va_cpy p1_dealNames t_dealNames (0 : Int32).toNatClampNeg (0 : Int32).toNatClampNeg (30 : Int32).toNatClampNeg) (va_cpy p1_dies t_dies (0 : Int32).toNatClampNeg (0 : Int32).toNatClampNeg (10 : Int32).toNatClampNeg) t_either (va_cpy p1_lender t_lender (0 : Int32).toNatClampNeg (0 : Int32).toNatClampNeg (30 : Int32).toNatClampNeg) t_lenderGain (va_cpy p1_limit t_limit (0 : Int32).toNatClampNeg (0 : Int32).toNatClampNeg (10 : Int32).toNatClampNeg) t_memo_restCount t_memo_lawfulGain t_memo_gains t_memo_lawfulWays t_memo_rests (va_cpy p1_personNames t_personNames (0 : Int32).toNatClampNeg (0 : Int32).toNatClampNeg (10 : Int32).toNatClampNeg) t_year p1_persons p1_deals p1_lawYears p1_toldParts p1_born p1_borrower p1_borrowerGain p1_byYear p1_dealNames p1_dies p1_either p1_lender p1_lenderGain p1_limit p1_memo_restCount p1_memo_lawfulGain p1_memo_gains p1_memo_lawfulWays p1_memo_rests p1_personNames p1_year) C dX10_copyFrom_119 (List.mem_of_getElem? (i := 6) rfl) (List.mem_of_getElem? (i := 7) rfl) (List.mem_of_getElem? (i := 8) rfl) (List.mem_of_getElem? (i := 9) rfl) rfl rfl (by decide) (by decide) (by decide) (by decide) (by decide) (by decide) (Nat.le_of_ble_eq_true rfl) rfl ?_
  refine j_aload_n (pc := 122) C dX10_copyFrom_122 rfl 1 rfl ?_
  refine j_get (pc := 123) (q0 := 17) (ci := 10) (kf := 10) C dX10_copyFrom_123 in_X10_copyFrom_X10 rfl (by decide) fl_X10_copyFrom_44 rfl rfl ?_
  refine j_iconst (pc := 126) (v := 0) C dX10_copyFrom_126 jk_I0 ?_
  refine j_aload_n (pc := 127) C dX10_copyFrom_127 rfl 0 rfl ?_
  refine j_get (pc := 128) (q0 := 0) (ci := 10) (kf := 10) C dX10_copyFrom_128 in_X10_copyFrom_X10 rfl (by decide) fl_X10_copyFrom_44 rfl rfl ?_
  refine j_iconst (pc := 131) (v := 0) C dX10_copyFrom_131 jk_I0 ?_
  refine j_bipush (pc := 132) (v := 30) C dX10_copyFrom_132 jk_B30 ?_
  refine j_copyi (pc := 134) (q0 := 19) (q1 := 2) (ws2 := wd_X10_copyFrom G a_t a_t_born a_t_borrower a_t_borrowerGain a_t_byYear a_t_dealNames a_t_dies a_t_either a_t_lender a_t_lenderGain a_t_limit a_t_memo a_t_memo_gains a_t_memo_lawfulWays a_t_memo_rests a_t_personNames a_t_year a_p1 a_p1_born a_p1_borrower a_p1_borrowerGain a_p1_byYear a_p1_dealNames a_p1_dies a_p1_either a_p1_lender a_p1_lenderGain a_p1_limit a_p1_memo a_p1_memo_gains a_p1_memo_lawfulWays a_p1_memo_rests a_p1_personNames a_p1_year p1_persons p1_deals p1_lawYears p1_toldParts (va_cpy p1_born t_born (0 : Int32).toNatClampNeg (0 : Int32).toNatClampNeg (10 : Int32).toNatClampNeg) (va_cpy p1_borrower t_borrower (0 : Int32).toNatClampNeg (0 : Int32).toNatClampNeg (30 : Int32).toNatClampNeg) t_borrowerGain t_byYear (va_cpy p1_dealNames t_dealNames (0 : Int32).toNatClampNeg (0 : Int32).toNatClampNeg (30 : Int32).toNatClampNeg) (va_cpy p1_dies t_dies (0 : Int32).toNatClampNeg (0 : Int32).toNatClampNeg (10 : Int32).toNatClampNeg) t_either (va_cpy p1_lender t_lender (0 : Int32).toNatClampNeg (0 : Int32).toNatClampNeg (30 : Int32).toNatClampNeg) t_lenderGain (va_cpy p1_limit t_limit (0 : Int32).toNatClampNeg (0 : Int32).toNatClampNeg (10 : Int32).toNatClampNeg) t_memo_restCount t_memo_lawfulGain t_memo_gains t_memo_lawfulWays t_memo_rests (va_cpy p1_personNames t_personNames (0 : Int32).toNatClampNeg (0 : Int32).toNatClampNeg (10 : Int32).toNatClampNeg) t_year p1_persons p1_deals p1_lawYears p1_toldParts p1_born p1_borrower p1_borrowerGain p1_byYear p1_dealNames p1_dies p1_either p1_lender p1_lenderGain p1_limit p1_memo_restCount p1_memo_lawfulGain p1_memo_gains p1_memo_lawfulWays p1_memo_rests p1_personNames p1_year) C dX10_copyFrom_134 (List.mem_of_getElem? (i := 6) rfl) (List.mem_of_getElem? (i := 7) rfl) (List.mem_of_getElem? (i := 8) rfl) (List.mem_of_getElem? (i := 9) rfl) rfl rfl (by decide) (by decide) (by decide) (by decide) (by decide) (by decide) (Nat.le_of_ble_eq_true rfl) rfl ?_
  refine j_aload_n (pc := 137) C dX10_copyFrom_137 rfl 1 rfl ?_
  refine j_get (pc := 138) (q0 := 17) (ci := 10) (kf := 11) C dX10_copyFrom_138 in_X10_copyFrom_X10 rfl (by decide) fl_X10_copyFrom_47 rfl rfl ?_
  refine j_iconst (pc := 141) (v := 0) C dX10_copyFrom_141 jk_I0 ?_
  refine j_aload_n (pc := 142) C dX10_copyFrom_142 rfl 0 rfl ?_
  refine j_get (pc := 143) (q0 := 0) (ci := 10) (kf := 11) C dX10_copyFrom_143 in_X10_copyFrom_X10 rfl (by decide) fl_X10_copyFrom_47 rfl rfl ?_
  refine j_iconst (pc := 146) (v := 0) C dX10_copyFrom_146 jk_I0 ?_
  refine j_bipush (pc := 147) (v := 30) C dX10_copyFrom_147 jk_B30 ?_
  refine j_copyi (pc := 149) (q0 := 33) (q1 := 16) (ws2 := wd_X10_copyFrom G a_t a_t_born a_t_borrower a_t_borrowerGain a_t_byYear a_t_dealNames a_t_dies a_t_either a_t_lender a_t_lenderGain a_t_limit a_t_memo a_t_memo_gains a_t_memo_lawfulWays a_t_memo_rests a_t_personNames a_t_year a_p1 a_p1_born a_p1_borrower a_p1_borrowerGain a_p1_byYear a_p1_dealNames a_p1_dies a_p1_either a_p1_lender a_p1_lenderGain a_p1_limit a_p1_memo a_p1_memo_gains a_p1_memo_lawfulWays a_p1_memo_rests a_p1_personNames a_p1_year p1_persons p1_deals p1_lawYears p1_toldParts (va_cpy p1_born t_born (0 : Int32).toNatClampNeg (0 : Int32).toNatClampNeg (10 : Int32).toNatClampNeg) (va_cpy p1_borrower t_borrower (0 : Int32).toNatClampNeg (0 : Int32).toNatClampNeg (30 : Int32).toNatClampNeg) t_borrowerGain t_byYear (va_cpy p1_dealNames t_dealNames (0 : Int32).toNatClampNeg (0 : Int32).toNatClampNeg (30 : Int32).toNatClampNeg) (va_cpy p1_dies t_dies (0 : Int32).toNatClampNeg (0 : Int32).toNatClampNeg (10 : Int32).toNatClampNeg) t_either (va_cpy p1_lender t_lender (0 : Int32).toNatClampNeg (0 : Int32).toNatClampNeg (30 : Int32).toNatClampNeg) t_lenderGain (va_cpy p1_limit t_limit (0 : Int32).toNatClampNeg (0 : Int32).toNatClampNeg (10 : Int32).toNatClampNeg) t_memo_restCount t_memo_lawfulGain t_memo_gains t_memo_lawfulWays t_memo_rests (va_cpy p1_personNames t_personNames (0 : Int32).toNatClampNeg (0 : Int32).toNatClampNeg (10 : Int32).toNatClampNeg) (va_cpy p1_year t_year (0 : Int32).toNatClampNeg (0 : Int32).toNatClampNeg (30 : Int32).toNatClampNeg) p1_persons p1_deals p1_lawYears p1_toldParts p1_born p1_borrower p1_borrowerGain p1_byYear p1_dealNames p1_dies p1_either p1_lender p1_lenderGain p1_limit p1_memo_restCount p1_memo_lawfulGain p1_memo_gains p1_memo_lawfulWays p1_memo_rests p1_personNames p1_year) C dX10_copyFrom_149 (List.mem_of_getElem? (i := 6) rfl) (List.mem_of_getElem? (i := 7) rfl) (List.mem_of_getElem? (i := 8) rfl) (List.mem_of_getElem? (i := 9) rfl) rfl rfl (by decide) (by decide) (by decide) (by decide) (by decide) (by decide) (Nat.le_of_ble_eq_true rfl) rfl ?_
  refine j_aload_n (pc := 152) C dX10_copyFrom_152 rfl 1 rfl ?_
  refine j_get (pc := 153) (q0 := 17) (ci := 10) (kf := 12) C dX10_copyFrom_153 in_X10_copyFrom_X10 rfl (by decide) fl_X10_copyFrom_50 rfl rfl ?_
  refine j_iconst (pc := 156) (v := 0) C dX10_copyFrom_156 jk_I0 ?_
  refine j_aload_n (pc := 157) C dX10_copyFrom_157 rfl 0 rfl ?_
  refine j_get (pc := 158) (q0 := 0) (ci := 10) (kf := 12) C dX10_copyFrom_158 in_X10_copyFrom_X10 rfl (by decide) fl_X10_copyFrom_50 rfl rfl ?_
  refine j_iconst (pc := 161) (v := 0) C dX10_copyFrom_161 jk_I0 ?_
  refine j_bipush (pc := 162) (v := 30) C dX10_copyFrom_162 jk_B30 ?_
  refine j_copyi (pc := 164) (q0 := 26) (q1 := 9) (ws2 := wd_X10_copyFrom G a_t a_t_born a_t_borrower a_t_borrowerGain a_t_byYear a_t_dealNames a_t_dies a_t_either a_t_lender a_t_lenderGain a_t_limit a_t_memo a_t_memo_gains a_t_memo_lawfulWays a_t_memo_rests a_t_personNames a_t_year a_p1 a_p1_born a_p1_borrower a_p1_borrowerGain a_p1_byYear a_p1_dealNames a_p1_dies a_p1_either a_p1_lender a_p1_lenderGain a_p1_limit a_p1_memo a_p1_memo_gains a_p1_memo_lawfulWays a_p1_memo_rests a_p1_personNames a_p1_year p1_persons p1_deals p1_lawYears p1_toldParts (va_cpy p1_born t_born (0 : Int32).toNatClampNeg (0 : Int32).toNatClampNeg (10 : Int32).toNatClampNeg) (va_cpy p1_borrower t_borrower (0 : Int32).toNatClampNeg (0 : Int32).toNatClampNeg (30 : Int32).toNatClampNeg) t_borrowerGain t_byYear (va_cpy p1_dealNames t_dealNames (0 : Int32).toNatClampNeg (0 : Int32).toNatClampNeg (30 : Int32).toNatClampNeg) (va_cpy p1_dies t_dies (0 : Int32).toNatClampNeg (0 : Int32).toNatClampNeg (10 : Int32).toNatClampNeg) t_either (va_cpy p1_lender t_lender (0 : Int32).toNatClampNeg (0 : Int32).toNatClampNeg (30 : Int32).toNatClampNeg) (va_cpy p1_lenderGain t_lenderGain (0 : Int32).toNatClampNeg (0 : Int32).toNatClampNeg (30 : Int32).toNatClampNeg) (va_cpy p1_limit t_limit (0 : Int32).toNatClampNeg (0 : Int32).toNatClampNeg (10 : Int32).toNatClampNeg) t_memo_restCount t_memo_lawfulGain t_memo_gains t_memo_lawfulWays t_memo_rests (va_cpy p1_personNames t_personNames (0 : Int32).toNatClampNeg (0 : Int32).toNatClampNeg (10 : Int32).toNatClampNeg) (va_cpy p1_year t_year (0 : Int32).toNatClampNeg (0 : Int32).toNatClampNeg (30 : Int32).toNatClampNeg) p1_persons p1_deals p1_lawYears p1_toldParts p1_born p1_borrower p1_borrowerGain p1_byYear p1_dealNames p1_dies p1_either p1_lender p1_lenderGain p1_limit p1_memo_restCount p1_memo_lawfulGain p1_memo_gains p1_memo_lawfulWays p1_memo_rests p1_personNames p1_year) C dX10_copyFrom_164 (List.mem_of_getElem? (i := 6) rfl) (List.mem_of_getElem? (i := 7) rfl) (List.mem_of_getElem? (i := 8) rfl) (List.mem_of_getElem? (i := 9) rfl) rfl rfl (by decide) (by decide) (by decide) (by decide) (by decide) (by decide) (Nat.le_of_ble_eq_true rfl) rfl ?_
  refine j_aload_n (pc := 167) C dX10_copyFrom_167 rfl 1 rfl ?_
  refine j_get (pc := 168) (q0 := 17) (ci := 10) (kf := 13) C dX10_copyFrom_168 in_X10_copyFrom_X10 rfl (by decide) fl_X10_copyFrom_53 rfl rfl ?_
  refine j_iconst (pc := 171) (v := 0) C dX10_copyFrom_171 jk_I0 ?_
  refine j_aload_n (pc := 172) C dX10_copyFrom_172 rfl 0 rfl ?_
  refine j_get (pc := 173) (q0 := 0) (ci := 10) (kf := 13) C dX10_copyFrom_173 in_X10_copyFrom_X10 rfl (by decide) fl_X10_copyFrom_53 rfl rfl ?_
  refine j_iconst (pc := 176) (v := 0) C dX10_copyFrom_176 jk_I0 ?_
  refine j_bipush (pc := 177) (v := 30) C dX10_copyFrom_177 jk_B30 ?_
  refine j_copyi (pc := 179) (q0 := 20) (q1 := 3) (ws2 := wd_X10_copyFrom G a_t a_t_born a_t_borrower a_t_borrowerGain a_t_byYear a_t_dealNames a_t_dies a_t_either a_t_lender a_t_lenderGain a_t_limit a_t_memo a_t_memo_gains a_t_memo_lawfulWays a_t_memo_rests a_t_personNames a_t_year a_p1 a_p1_born a_p1_borrower a_p1_borrowerGain a_p1_byYear a_p1_dealNames a_p1_dies a_p1_either a_p1_lender a_p1_lenderGain a_p1_limit a_p1_memo a_p1_memo_gains a_p1_memo_lawfulWays a_p1_memo_rests a_p1_personNames a_p1_year p1_persons p1_deals p1_lawYears p1_toldParts (va_cpy p1_born t_born (0 : Int32).toNatClampNeg (0 : Int32).toNatClampNeg (10 : Int32).toNatClampNeg) (va_cpy p1_borrower t_borrower (0 : Int32).toNatClampNeg (0 : Int32).toNatClampNeg (30 : Int32).toNatClampNeg) (va_cpy p1_borrowerGain t_borrowerGain (0 : Int32).toNatClampNeg (0 : Int32).toNatClampNeg (30 : Int32).toNatClampNeg) t_byYear (va_cpy p1_dealNames t_dealNames (0 : Int32).toNatClampNeg (0 : Int32).toNatClampNeg (30 : Int32).toNatClampNeg) (va_cpy p1_dies t_dies (0 : Int32).toNatClampNeg (0 : Int32).toNatClampNeg (10 : Int32).toNatClampNeg) t_either (va_cpy p1_lender t_lender (0 : Int32).toNatClampNeg (0 : Int32).toNatClampNeg (30 : Int32).toNatClampNeg) (va_cpy p1_lenderGain t_lenderGain (0 : Int32).toNatClampNeg (0 : Int32).toNatClampNeg (30 : Int32).toNatClampNeg) (va_cpy p1_limit t_limit (0 : Int32).toNatClampNeg (0 : Int32).toNatClampNeg (10 : Int32).toNatClampNeg) t_memo_restCount t_memo_lawfulGain t_memo_gains t_memo_lawfulWays t_memo_rests (va_cpy p1_personNames t_personNames (0 : Int32).toNatClampNeg (0 : Int32).toNatClampNeg (10 : Int32).toNatClampNeg) (va_cpy p1_year t_year (0 : Int32).toNatClampNeg (0 : Int32).toNatClampNeg (30 : Int32).toNatClampNeg) p1_persons p1_deals p1_lawYears p1_toldParts p1_born p1_borrower p1_borrowerGain p1_byYear p1_dealNames p1_dies p1_either p1_lender p1_lenderGain p1_limit p1_memo_restCount p1_memo_lawfulGain p1_memo_gains p1_memo_lawfulWays p1_memo_rests p1_personNames p1_year) C dX10_copyFrom_179 (List.mem_of_getElem? (i := 6) rfl) (List.mem_of_getElem? (i := 7) rfl) (List.mem_of_getElem? (i := 8) rfl) (List.mem_of_getElem? (i := 9) rfl) rfl rfl (by decide) (by decide) (by decide) (by decide) (by decide) (by decide) (Nat.le_of_ble_eq_true rfl) rfl ?_
  refine j_aload_n (pc := 182) C dX10_copyFrom_182 rfl 1 rfl ?_
  refine j_get (pc := 183) (q0 := 17) (ci := 10) (kf := 14) C dX10_copyFrom_183 in_X10_copyFrom_X10 rfl (by decide) fl_X10_copyFrom_56 rfl rfl ?_
  refine j_iconst (pc := 186) (v := 0) C dX10_copyFrom_186 jk_I0 ?_
  refine j_aload_n (pc := 187) C dX10_copyFrom_187 rfl 0 rfl ?_
  refine j_get (pc := 188) (q0 := 0) (ci := 10) (kf := 14) C dX10_copyFrom_188 in_X10_copyFrom_X10 rfl (by decide) fl_X10_copyFrom_56 rfl rfl ?_
  refine j_iconst (pc := 191) (v := 0) C dX10_copyFrom_191 jk_I0 ?_
  refine j_bipush (pc := 192) (v := 30) C dX10_copyFrom_192 jk_B30 ?_
  refine j_copyi (pc := 194) (q0 := 24) (q1 := 7) (ws2 := wd_X10_copyFrom G a_t a_t_born a_t_borrower a_t_borrowerGain a_t_byYear a_t_dealNames a_t_dies a_t_either a_t_lender a_t_lenderGain a_t_limit a_t_memo a_t_memo_gains a_t_memo_lawfulWays a_t_memo_rests a_t_personNames a_t_year a_p1 a_p1_born a_p1_borrower a_p1_borrowerGain a_p1_byYear a_p1_dealNames a_p1_dies a_p1_either a_p1_lender a_p1_lenderGain a_p1_limit a_p1_memo a_p1_memo_gains a_p1_memo_lawfulWays a_p1_memo_rests a_p1_personNames a_p1_year p1_persons p1_deals p1_lawYears p1_toldParts (va_cpy p1_born t_born (0 : Int32).toNatClampNeg (0 : Int32).toNatClampNeg (10 : Int32).toNatClampNeg) (va_cpy p1_borrower t_borrower (0 : Int32).toNatClampNeg (0 : Int32).toNatClampNeg (30 : Int32).toNatClampNeg) (va_cpy p1_borrowerGain t_borrowerGain (0 : Int32).toNatClampNeg (0 : Int32).toNatClampNeg (30 : Int32).toNatClampNeg) t_byYear (va_cpy p1_dealNames t_dealNames (0 : Int32).toNatClampNeg (0 : Int32).toNatClampNeg (30 : Int32).toNatClampNeg) (va_cpy p1_dies t_dies (0 : Int32).toNatClampNeg (0 : Int32).toNatClampNeg (10 : Int32).toNatClampNeg) (va_cpy p1_either t_either (0 : Int32).toNatClampNeg (0 : Int32).toNatClampNeg (30 : Int32).toNatClampNeg) (va_cpy p1_lender t_lender (0 : Int32).toNatClampNeg (0 : Int32).toNatClampNeg (30 : Int32).toNatClampNeg) (va_cpy p1_lenderGain t_lenderGain (0 : Int32).toNatClampNeg (0 : Int32).toNatClampNeg (30 : Int32).toNatClampNeg) (va_cpy p1_limit t_limit (0 : Int32).toNatClampNeg (0 : Int32).toNatClampNeg (10 : Int32).toNatClampNeg) t_memo_restCount t_memo_lawfulGain t_memo_gains t_memo_lawfulWays t_memo_rests (va_cpy p1_personNames t_personNames (0 : Int32).toNatClampNeg (0 : Int32).toNatClampNeg (10 : Int32).toNatClampNeg) (va_cpy p1_year t_year (0 : Int32).toNatClampNeg (0 : Int32).toNatClampNeg (30 : Int32).toNatClampNeg) p1_persons p1_deals p1_lawYears p1_toldParts p1_born p1_borrower p1_borrowerGain p1_byYear p1_dealNames p1_dies p1_either p1_lender p1_lenderGain p1_limit p1_memo_restCount p1_memo_lawfulGain p1_memo_gains p1_memo_lawfulWays p1_memo_rests p1_personNames p1_year) C dX10_copyFrom_194 (List.mem_of_getElem? (i := 6) rfl) (List.mem_of_getElem? (i := 7) rfl) (List.mem_of_getElem? (i := 8) rfl) (List.mem_of_getElem? (i := 9) rfl) rfl rfl (by decide) (by decide) (by decide) (by decide) (by decide) (by decide) (Nat.le_of_ble_eq_true rfl) rfl ?_
  refine j_aload_n (pc := 197) C dX10_copyFrom_197 rfl 1 rfl ?_
  refine j_get (pc := 198) (q0 := 17) (ci := 10) (kf := 15) C dX10_copyFrom_198 in_X10_copyFrom_X10 rfl (by decide) fl_X10_copyFrom_59 rfl rfl ?_
  refine j_iconst (pc := 201) (v := 0) C dX10_copyFrom_201 jk_I0 ?_
  refine j_aload_n (pc := 202) C dX10_copyFrom_202 rfl 0 rfl ?_
  refine j_get (pc := 203) (q0 := 0) (ci := 10) (kf := 15) C dX10_copyFrom_203 in_X10_copyFrom_X10 rfl (by decide) fl_X10_copyFrom_59 rfl rfl ?_
  refine j_iconst (pc := 206) (v := 0) C dX10_copyFrom_206 jk_I0 ?_
  refine j_bipush (pc := 207) (v := 30) C dX10_copyFrom_207 jk_B30 ?_
  refine j_copyi (pc := 209) (q0 := 21) (q1 := 4) (ws2 := wd_X10_copyFrom G a_t a_t_born a_t_borrower a_t_borrowerGain a_t_byYear a_t_dealNames a_t_dies a_t_either a_t_lender a_t_lenderGain a_t_limit a_t_memo a_t_memo_gains a_t_memo_lawfulWays a_t_memo_rests a_t_personNames a_t_year a_p1 a_p1_born a_p1_borrower a_p1_borrowerGain a_p1_byYear a_p1_dealNames a_p1_dies a_p1_either a_p1_lender a_p1_lenderGain a_p1_limit a_p1_memo a_p1_memo_gains a_p1_memo_lawfulWays a_p1_memo_rests a_p1_personNames a_p1_year p1_persons p1_deals p1_lawYears p1_toldParts (va_cpy p1_born t_born (0 : Int32).toNatClampNeg (0 : Int32).toNatClampNeg (10 : Int32).toNatClampNeg) (va_cpy p1_borrower t_borrower (0 : Int32).toNatClampNeg (0 : Int32).toNatClampNeg (30 : Int32).toNatClampNeg) (va_cpy p1_borrowerGain t_borrowerGain (0 : Int32).toNatClampNeg (0 : Int32).toNatClampNeg (30 : Int32).toNatClampNeg) (va_cpy p1_byYear t_byYear (0 : Int32).toNatClampNeg (0 : Int32).toNatClampNeg (30 : Int32).toNatClampNeg) (va_cpy p1_dealNames t_dealNames (0 : Int32).toNatClampNeg (0 : Int32).toNatClampNeg (30 : Int32).toNatClampNeg) (va_cpy p1_dies t_dies (0 : Int32).toNatClampNeg (0 : Int32).toNatClampNeg (10 : Int32).toNatClampNeg) (va_cpy p1_either t_either (0 : Int32).toNatClampNeg (0 : Int32).toNatClampNeg (30 : Int32).toNatClampNeg) (va_cpy p1_lender t_lender (0 : Int32).toNatClampNeg (0 : Int32).toNatClampNeg (30 : Int32).toNatClampNeg) (va_cpy p1_lenderGain t_lenderGain (0 : Int32).toNatClampNeg (0 : Int32).toNatClampNeg (30 : Int32).toNatClampNeg) (va_cpy p1_limit t_limit (0 : Int32).toNatClampNeg (0 : Int32).toNatClampNeg (10 : Int32).toNatClampNeg) t_memo_restCount t_memo_lawfulGain t_memo_gains t_memo_lawfulWays t_memo_rests (va_cpy p1_personNames t_personNames (0 : Int32).toNatClampNeg (0 : Int32).toNatClampNeg (10 : Int32).toNatClampNeg) (va_cpy p1_year t_year (0 : Int32).toNatClampNeg (0 : Int32).toNatClampNeg (30 : Int32).toNatClampNeg) p1_persons p1_deals p1_lawYears p1_toldParts p1_born p1_borrower p1_borrowerGain p1_byYear p1_dealNames p1_dies p1_either p1_lender p1_lenderGain p1_limit p1_memo_restCount p1_memo_lawfulGain p1_memo_gains p1_memo_lawfulWays p1_memo_rests p1_personNames p1_year) C dX10_copyFrom_209 (List.mem_of_getElem? (i := 6) rfl) (List.mem_of_getElem? (i := 7) rfl) (List.mem_of_getElem? (i := 8) rfl) (List.mem_of_getElem? (i := 9) rfl) rfl rfl (by decide) (by decide) (by decide) (by decide) (by decide) (by decide) (Nat.le_of_ble_eq_true rfl) rfl ?_
  refine j_aload_n (pc := 212) C dX10_copyFrom_212 rfl 0 rfl ?_
  refine j_get (pc := 213) (q0 := 0) (ci := 10) (kf := 16) C dX10_copyFrom_213 in_X10_copyFrom_X10 rfl (by decide) fl_X10_copyFrom_65 rfl rfl ?_
  refine j_aload_n (pc := 216) C dX10_copyFrom_216 rfl 1 rfl ?_
  refine j_get (pc := 217) (q0 := 17) (ci := 10) (kf := 16) C dX10_copyFrom_217 in_X10_copyFrom_X10 rfl (by decide) fl_X10_copyFrom_65 rfl rfl ?_
  obtain ⟨q1, eq1, hd⟩ := ob_bind hd
  refine j_callV (pc := 220) (q0 := 11) (ci := 5) (As := [.ref a_p1_memo]) (rest := []) (st2 := []) (ws2 := wd_X10_copyFrom G a_t a_t_born a_t_borrower a_t_borrowerGain a_t_byYear a_t_dealNames a_t_dies a_t_either a_t_lender a_t_lenderGain a_t_limit a_t_memo a_t_memo_gains a_t_memo_lawfulWays a_t_memo_rests a_t_personNames a_t_year a_p1 a_p1_born a_p1_borrower a_p1_borrowerGain a_p1_byYear a_p1_dealNames a_p1_dies a_p1_either a_p1_lender a_p1_lenderGain a_p1_limit a_p1_memo a_p1_memo_gains a_p1_memo_lawfulWays a_p1_memo_rests a_p1_personNames a_p1_year p1_persons p1_deals p1_lawYears p1_toldParts (va_cpy p1_born t_born (0 : Int32).toNatClampNeg (0 : Int32).toNatClampNeg (10 : Int32).toNatClampNeg) (va_cpy p1_borrower t_borrower (0 : Int32).toNatClampNeg (0 : Int32).toNatClampNeg (30 : Int32).toNatClampNeg) (va_cpy p1_borrowerGain t_borrowerGain (0 : Int32).toNatClampNeg (0 : Int32).toNatClampNeg (30 : Int32).toNatClampNeg) (va_cpy p1_byYear t_byYear (0 : Int32).toNatClampNeg (0 : Int32).toNatClampNeg (30 : Int32).toNatClampNeg) (va_cpy p1_dealNames t_dealNames (0 : Int32).toNatClampNeg (0 : Int32).toNatClampNeg (30 : Int32).toNatClampNeg) (va_cpy p1_dies t_dies (0 : Int32).toNatClampNeg (0 : Int32).toNatClampNeg (10 : Int32).toNatClampNeg) (va_cpy p1_either t_either (0 : Int32).toNatClampNeg (0 : Int32).toNatClampNeg (30 : Int32).toNatClampNeg) (va_cpy p1_lender t_lender (0 : Int32).toNatClampNeg (0 : Int32).toNatClampNeg (30 : Int32).toNatClampNeg) (va_cpy p1_lenderGain t_lenderGain (0 : Int32).toNatClampNeg (0 : Int32).toNatClampNeg (30 : Int32).toNatClampNeg) (va_cpy p1_limit t_limit (0 : Int32).toNatClampNeg (0 : Int32).toNatClampNeg (10 : Int32).toNatClampNeg) q1.2.2.2.1 q1.2.2.2.2 q1.1 q1.2.2.1 q1.2.1 (va_cpy p1_personNames t_personNames (0 : Int32).toNatClampNeg (0 : Int32).toNatClampNeg (10 : Int32).toNatClampNeg) (va_cpy p1_year t_year (0 : Int32).toNatClampNeg (0 : Int32).toNatClampNeg (30 : Int32).toNatClampNeg) p1_persons p1_deals p1_lawYears p1_toldParts p1_born p1_borrower p1_borrowerGain p1_byYear p1_dealNames p1_dies p1_either p1_lender p1_lenderGain p1_limit p1_memo_restCount p1_memo_lawfulGain p1_memo_gains p1_memo_lawfulWays p1_memo_rests p1_personNames p1_year) C (ct_X5_copyFrom l G a_t_memo a_t_memo_gains a_t_memo_lawfulWays a_t_memo_rests a_p1_memo a_p1_memo_gains a_p1_memo_lawfulWays a_p1_memo_rests t_memo_restCount t_memo_lawfulGain t_memo_gains t_memo_lawfulWays t_memo_rests p1_memo_restCount p1_memo_lawfulGain p1_memo_gains p1_memo_lawfulWays p1_memo_rests q1 eq1) jy_X5_copyFrom dX10_copyFrom_220 gX10_copyFrom_X5_copyFrom rfl rfl (by decide) ⟨Nat.zero_le _, Nat.zero_le _⟩ [11, 12, 13, 14, 28, 29, 30, 31] rfl rfl (jpt_eq rfl rfl rfl) rfl rfl rfl (Nat.le_of_ble_eq_true rfl) rfl ?_
  obtain rfl := Option.some.inj hd
  exact j_vret (pc := 223) C hE dX10_copyFrom_223 rfl rfl
/-! ##### LendTown$Town.hasPerson(I)Z -/
abbrev rm_X10_hasPerson : Room := { frames := 0, cells := 0, slots := 0, locals := 0 }
theorem jy_X10_hasPerson : jY yX10_hasPerson wsX10_hasPerson rm_X10_hasPerson cX10_hasPerson 2 (some .boolean) 1 := ⟨⟨_, rfl⟩, ⟨rfl, rfl⟩, by decide, by decide, by decide +kernel⟩
theorem in_X10_hasPerson_X10 : ∀ w ∈ u_ws RX10 TX10 17, w ∈ wsX10_hasPerson := fun w h => List.mem_cons_of_mem _ (List.mem_append_right _ (h))
theorem fl_X10_hasPerson_9 : Cond.fieldLink RX10 9 "LendTown$Town" "persons" "I" ∈ wsX10_hasPerson := List.mem_of_getElem? (i := 1) rfl
def wd_X10_hasPerson (G : jG) (a_t : Nat) (t_persons : Int32) (t_deals : Int32) (t_lawYears : Int32) (t_toldParts : Int32) (a_t_personNames : Nat) (a_t_born : Nat) (a_t_dies : Nat) (a_t_limit : Nat) (a_t_dealNames : Nat) (a_t_lender : Nat) (a_t_borrower : Nat) (a_t_year : Nat) (a_t_lenderGain : Nat) (a_t_borrowerGain : Nat) (a_t_either : Nat) (a_t_byYear : Nat) (a_t_memo : Nat) : va_W := [(a_t, .inr (10, [.int t_persons, .int t_deals, .int t_lawYears, .int t_toldParts, .ref a_t_personNames, .ref a_t_born, .ref a_t_dies, .ref a_t_limit, .ref a_t_dealNames, .ref a_t_lender, .ref a_t_borrower, .ref a_t_year, .ref a_t_lenderGain, .ref a_t_borrowerGain, .ref a_t_either, .ref a_t_byYear, .ref a_t_memo]))]
set_option maxHeartbeats 8000000 in
set_option maxRecDepth 100000 in
theorem ct_X10_hasPerson (l : Launch) (G : jG) (a_t : Nat) (t_persons : Int32) (t_deals : Int32) (t_lawYears : Int32) (t_toldParts : Int32) (a_t_personNames : Nat) (a_t_born : Nat) (a_t_dies : Nat) (a_t_limit : Nat) (a_t_dealNames : Nat) (a_t_lender : Nat) (a_t_borrower : Nat) (a_t_year : Nat) (a_t_lenderGain : Nat) (a_t_borrowerGain : Nat) (a_t_either : Nat) (a_t_byYear : Nat) (a_t_memo : Nat) (p1 : Int32) (r : Bool) (hd : dn_X10_hasPerson t_persons p1 = some r) : jM l G yX10_hasPerson wsX10_hasPerson rm_X10_hasPerson [.ref a_t, .int p1] (wd_X10_hasPerson G a_t t_persons t_deals t_lawYears t_toldParts a_t_personNames a_t_born a_t_dies a_t_limit a_t_dealNames a_t_lender a_t_borrower a_t_year a_t_lenderGain a_t_borrowerGain a_t_either a_t_byYear a_t_memo) (some (.int (b2i r))) (wd_X10_hasPerson G a_t t_persons t_deals t_lawYears t_toldParts a_t_personNames a_t_born a_t_dies a_t_limit a_t_dealNames a_t_lender a_t_borrower a_t_year a_t_lenderGain a_t_borrowerGain a_t_either a_t_byYear a_t_memo) := by
  refine jM_of (own := RX10) (by decide) rfl rfl rfl (Nat.le_of_ble_eq_true rfl) (lv0 := [(0, .ref a_t), (1, .int p1)]) rfl (fun X C hE => ?_)
  unfold dn_X10_hasPerson at hd
  refine j_iload_n (pc := 0) C dX10_hasPerson_0 rfl 1 rfl ?_
  refine j_if_lt (pc := 1) (tgt := 16) C dX10_hasPerson_1 (by decide) (fun c1 => ?_) (fun c1 => ?_)
  · have hd := ob_pos c1 hd
    refine j_iconst (pc := 16) (v := 0) C dX10_hasPerson_16 jk_I0 ?_
    obtain rfl := Option.some.inj hd
    exact j_zret (pc := 17) C hE dX10_hasPerson_17 rfl rfl rfl
  · have hd := ob_neg c1 hd
    refine j_iload_n (pc := 4) C dX10_hasPerson_4 rfl 1 rfl ?_
    refine j_aload_n (pc := 5) C dX10_hasPerson_5 rfl 0 rfl ?_
    refine j_get (pc := 6) (q0 := 0) (ci := 10) (kf := 0) C dX10_hasPerson_6 in_X10_hasPerson_X10 rfl (by decide) fl_X10_hasPerson_9 rfl rfl ?_
    refine j_icmp_ge (pc := 9) (tgt := 16) C dX10_hasPerson_9 (by decide) (fun c2 => ?_) (fun c2 => ?_)
    · have hd := ob_pos c2 hd
      refine j_iconst (pc := 16) (v := 0) C dX10_hasPerson_16 jk_I0 ?_
      obtain rfl := Option.some.inj hd
      exact j_zret (pc := 17) C hE dX10_hasPerson_17 rfl rfl rfl
    · have hd := ob_neg c2 hd
      refine j_iconst (pc := 12) (v := 1) C dX10_hasPerson_12 jk_I1 ?_
      refine j_goto (pc := 13) (tgt := 17) C dX10_hasPerson_13 (by decide) ?_
      obtain rfl := Option.some.inj hd
      exact j_zret (pc := 17) C hE dX10_hasPerson_17 rfl rfl rfl
/-! ##### LendTown$Town.hasDeal(I)Z -/
abbrev rm_X10_hasDeal : Room := { frames := 0, cells := 0, slots := 0, locals := 0 }
theorem jy_X10_hasDeal : jY yX10_hasDeal wsX10_hasDeal rm_X10_hasDeal cX10_hasDeal 2 (some .boolean) 1 := ⟨⟨_, rfl⟩, ⟨rfl, rfl⟩, by decide, by decide, by decide +kernel⟩
theorem in_X10_hasDeal_X10 : ∀ w ∈ u_ws RX10 TX10 17, w ∈ wsX10_hasDeal := fun w h => List.mem_cons_of_mem _ (List.mem_append_right _ (h))
theorem fl_X10_hasDeal_15 : Cond.fieldLink RX10 15 "LendTown$Town" "deals" "I" ∈ wsX10_hasDeal := List.mem_of_getElem? (i := 1) rfl
def wd_X10_hasDeal (G : jG) (a_t : Nat) (t_persons : Int32) (t_deals : Int32) (t_lawYears : Int32) (t_toldParts : Int32) (a_t_personNames : Nat) (a_t_born : Nat) (a_t_dies : Nat) (a_t_limit : Nat) (a_t_dealNames : Nat) (a_t_lender : Nat) (a_t_borrower : Nat) (a_t_year : Nat) (a_t_lenderGain : Nat) (a_t_borrowerGain : Nat) (a_t_either : Nat) (a_t_byYear : Nat) (a_t_memo : Nat) : va_W := [(a_t, .inr (10, [.int t_persons, .int t_deals, .int t_lawYears, .int t_toldParts, .ref a_t_personNames, .ref a_t_born, .ref a_t_dies, .ref a_t_limit, .ref a_t_dealNames, .ref a_t_lender, .ref a_t_borrower, .ref a_t_year, .ref a_t_lenderGain, .ref a_t_borrowerGain, .ref a_t_either, .ref a_t_byYear, .ref a_t_memo]))]
set_option maxHeartbeats 8000000 in
set_option maxRecDepth 100000 in
theorem ct_X10_hasDeal (l : Launch) (G : jG) (a_t : Nat) (t_persons : Int32) (t_deals : Int32) (t_lawYears : Int32) (t_toldParts : Int32) (a_t_personNames : Nat) (a_t_born : Nat) (a_t_dies : Nat) (a_t_limit : Nat) (a_t_dealNames : Nat) (a_t_lender : Nat) (a_t_borrower : Nat) (a_t_year : Nat) (a_t_lenderGain : Nat) (a_t_borrowerGain : Nat) (a_t_either : Nat) (a_t_byYear : Nat) (a_t_memo : Nat) (p1 : Int32) (r : Bool) (hd : dn_X10_hasDeal t_deals p1 = some r) : jM l G yX10_hasDeal wsX10_hasDeal rm_X10_hasDeal [.ref a_t, .int p1] (wd_X10_hasDeal G a_t t_persons t_deals t_lawYears t_toldParts a_t_personNames a_t_born a_t_dies a_t_limit a_t_dealNames a_t_lender a_t_borrower a_t_year a_t_lenderGain a_t_borrowerGain a_t_either a_t_byYear a_t_memo) (some (.int (b2i r))) (wd_X10_hasDeal G a_t t_persons t_deals t_lawYears t_toldParts a_t_personNames a_t_born a_t_dies a_t_limit a_t_dealNames a_t_lender a_t_borrower a_t_year a_t_lenderGain a_t_borrowerGain a_t_either a_t_byYear a_t_memo) := by
  refine jM_of (own := RX10) (by decide) rfl rfl rfl (Nat.le_of_ble_eq_true rfl) (lv0 := [(0, .ref a_t), (1, .int p1)]) rfl (fun X C hE => ?_)
  unfold dn_X10_hasDeal at hd
  refine j_iload_n (pc := 0) C dX10_hasDeal_0 rfl 1 rfl ?_
  refine j_if_lt (pc := 1) (tgt := 16) C dX10_hasDeal_1 (by decide) (fun c1 => ?_) (fun c1 => ?_)
  · have hd := ob_pos c1 hd
    refine j_iconst (pc := 16) (v := 0) C dX10_hasDeal_16 jk_I0 ?_
    obtain rfl := Option.some.inj hd
    exact j_zret (pc := 17) C hE dX10_hasDeal_17 rfl rfl rfl
  · have hd := ob_neg c1 hd
    refine j_iload_n (pc := 4) C dX10_hasDeal_4 rfl 1 rfl ?_
    refine j_aload_n (pc := 5) C dX10_hasDeal_5 rfl 0 rfl ?_
    refine j_get (pc := 6) (q0 := 0) (ci := 10) (kf := 1) C dX10_hasDeal_6 in_X10_hasDeal_X10 rfl (by decide) fl_X10_hasDeal_15 rfl rfl ?_
    refine j_icmp_ge (pc := 9) (tgt := 16) C dX10_hasDeal_9 (by decide) (fun c2 => ?_) (fun c2 => ?_)
    · have hd := ob_pos c2 hd
      refine j_iconst (pc := 16) (v := 0) C dX10_hasDeal_16 jk_I0 ?_
      obtain rfl := Option.some.inj hd
      exact j_zret (pc := 17) C hE dX10_hasDeal_17 rfl rfl rfl
    · have hd := ob_neg c2 hd
      refine j_iconst (pc := 12) (v := 1) C dX10_hasDeal_12 jk_I1 ?_
      refine j_goto (pc := 13) (tgt := 17) C dX10_hasDeal_13 (by decide) ?_
      obtain rfl := Option.some.inj hd
      exact j_zret (pc := 17) C hE dX10_hasDeal_17 rfl rfl rfl
/-! ##### LendTown$Town.partsCount()I -/
abbrev rm_X10_partsCount : Room := { frames := 0, cells := 0, slots := 0, locals := 0 }
theorem jy_X10_partsCount : jY yX10_partsCount wsX10_partsCount rm_X10_partsCount cX10_partsCount 1 (some .int) 0 := ⟨⟨_, rfl⟩, ⟨rfl, rfl⟩, by decide, by decide, by decide +kernel⟩
theorem in_X10_partsCount_X10 : ∀ w ∈ u_ws RX10 TX10 17, w ∈ wsX10_partsCount := fun w h => List.mem_cons_of_mem _ (List.mem_append_right _ (h))
theorem fl_X10_partsCount_9 : Cond.fieldLink RX10 9 "LendTown$Town" "persons" "I" ∈ wsX10_partsCount := List.mem_of_getElem? (i := 1) rfl
def wd_X10_partsCount (G : jG) (a_t : Nat) (t_persons : Int32) (t_deals : Int32) (t_lawYears : Int32) (t_toldParts : Int32) (a_t_personNames : Nat) (a_t_born : Nat) (a_t_dies : Nat) (a_t_limit : Nat) (a_t_dealNames : Nat) (a_t_lender : Nat) (a_t_borrower : Nat) (a_t_year : Nat) (a_t_lenderGain : Nat) (a_t_borrowerGain : Nat) (a_t_either : Nat) (a_t_byYear : Nat) (a_t_memo : Nat) : va_W := [(a_t, .inr (10, [.int t_persons, .int t_deals, .int t_lawYears, .int t_toldParts, .ref a_t_personNames, .ref a_t_born, .ref a_t_dies, .ref a_t_limit, .ref a_t_dealNames, .ref a_t_lender, .ref a_t_borrower, .ref a_t_year, .ref a_t_lenderGain, .ref a_t_borrowerGain, .ref a_t_either, .ref a_t_byYear, .ref a_t_memo]))]
set_option maxHeartbeats 8000000 in
set_option maxRecDepth 100000 in
theorem ct_X10_partsCount (l : Launch) (G : jG) (a_t : Nat) (t_persons : Int32) (t_deals : Int32) (t_lawYears : Int32) (t_toldParts : Int32) (a_t_personNames : Nat) (a_t_born : Nat) (a_t_dies : Nat) (a_t_limit : Nat) (a_t_dealNames : Nat) (a_t_lender : Nat) (a_t_borrower : Nat) (a_t_year : Nat) (a_t_lenderGain : Nat) (a_t_borrowerGain : Nat) (a_t_either : Nat) (a_t_byYear : Nat) (a_t_memo : Nat)  (r : Int32) (hd : dn_X10_partsCount t_persons = some r) : jM l G yX10_partsCount wsX10_partsCount rm_X10_partsCount [.ref a_t] (wd_X10_partsCount G a_t t_persons t_deals t_lawYears t_toldParts a_t_personNames a_t_born a_t_dies a_t_limit a_t_dealNames a_t_lender a_t_borrower a_t_year a_t_lenderGain a_t_borrowerGain a_t_either a_t_byYear a_t_memo) (some (.int r)) (wd_X10_partsCount G a_t t_persons t_deals t_lawYears t_toldParts a_t_personNames a_t_born a_t_dies a_t_limit a_t_dealNames a_t_lender a_t_borrower a_t_year a_t_lenderGain a_t_borrowerGain a_t_either a_t_byYear a_t_memo) := by
  refine jM_of (own := RX10) (by decide) rfl rfl rfl (Nat.le_of_ble_eq_true rfl) (lv0 := [(0, .ref a_t)]) rfl (fun X C hE => ?_)
  unfold dn_X10_partsCount at hd
  refine j_iconst (pc := 0) (v := 1) C dX10_partsCount_0 jk_I1 ?_
  refine j_aload_n (pc := 1) C dX10_partsCount_1 rfl 0 rfl ?_
  refine j_get (pc := 2) (q0 := 0) (ci := 10) (kf := 0) C dX10_partsCount_2 in_X10_partsCount_X10 rfl (by decide) fl_X10_partsCount_9 rfl rfl ?_
  refine j_ishl (pc := 5) C dX10_partsCount_5 ?_
  obtain rfl := Option.some.inj hd
  exact j_iret (pc := 6) C hE dX10_partsCount_6 rfl rfl
/-! ##### LendTown$Town.hasParts(I)Z -/
abbrev rm_X10_hasParts : Room := { frames := 1, cells := 0, slots := 0, locals := 20 }
theorem jy_X10_hasParts : jY yX10_hasParts wsX10_hasParts rm_X10_hasParts cX10_hasParts 2 (some .boolean) 1 := ⟨⟨_, rfl⟩, ⟨rfl, rfl⟩, by decide, by decide, by decide +kernel⟩
def wd_X10_hasParts (G : jG) (a_t : Nat) (t_persons : Int32) (t_deals : Int32) (t_lawYears : Int32) (t_toldParts : Int32) (a_t_personNames : Nat) (a_t_born : Nat) (a_t_dies : Nat) (a_t_limit : Nat) (a_t_dealNames : Nat) (a_t_lender : Nat) (a_t_borrower : Nat) (a_t_year : Nat) (a_t_lenderGain : Nat) (a_t_borrowerGain : Nat) (a_t_either : Nat) (a_t_byYear : Nat) (a_t_memo : Nat) : va_W := [(a_t, .inr (10, [.int t_persons, .int t_deals, .int t_lawYears, .int t_toldParts, .ref a_t_personNames, .ref a_t_born, .ref a_t_dies, .ref a_t_limit, .ref a_t_dealNames, .ref a_t_lender, .ref a_t_borrower, .ref a_t_year, .ref a_t_lenderGain, .ref a_t_borrowerGain, .ref a_t_either, .ref a_t_byYear, .ref a_t_memo]))]
set_option maxHeartbeats 8000000 in
set_option maxRecDepth 100000 in
theorem ct_X10_hasParts (l : Launch) (G : jG) (a_t : Nat) (t_persons : Int32) (t_deals : Int32) (t_lawYears : Int32) (t_toldParts : Int32) (a_t_personNames : Nat) (a_t_born : Nat) (a_t_dies : Nat) (a_t_limit : Nat) (a_t_dealNames : Nat) (a_t_lender : Nat) (a_t_borrower : Nat) (a_t_year : Nat) (a_t_lenderGain : Nat) (a_t_borrowerGain : Nat) (a_t_either : Nat) (a_t_byYear : Nat) (a_t_memo : Nat) (p1 : Int32) (r : Bool) (hd : dn_X10_hasParts t_persons p1 = some r) : jM l G yX10_hasParts wsX10_hasParts rm_X10_hasParts [.ref a_t, .int p1] (wd_X10_hasParts G a_t t_persons t_deals t_lawYears t_toldParts a_t_personNames a_t_born a_t_dies a_t_limit a_t_dealNames a_t_lender a_t_borrower a_t_year a_t_lenderGain a_t_borrowerGain a_t_either a_t_byYear a_t_memo) (some (.int (b2i r))) (wd_X10_hasParts G a_t t_persons t_deals t_lawYears t_toldParts a_t_personNames a_t_born a_t_dies a_t_limit a_t_dealNames a_t_lender a_t_borrower a_t_year a_t_lenderGain a_t_borrowerGain a_t_either a_t_byYear a_t_memo) := by
  refine jM_of (own := RX10) (by decide) rfl rfl rfl (Nat.le_of_ble_eq_true rfl) (lv0 := [(0, .ref a_t), (1, .int p1)]) rfl (fun X C hE => ?_)
  unfold dn_X10_hasParts at hd
  refine j_iload_n (pc := 0) C dX10_hasParts_0 rfl 1 rfl ?_
  refine j_if_lt (pc := 1) (tgt := 16) C dX10_hasParts_1 (by decide) (fun c1 => ?_) (fun c1 => ?_)
  · have hd := ob_pos c1 hd
    refine j_iconst (pc := 16) (v := 0) C dX10_hasParts_16 jk_I0 ?_
    obtain rfl := Option.some.inj hd
    exact j_zret (pc := 17) C hE dX10_hasParts_17 rfl rfl rfl
  · have hd := ob_neg c1 hd
    refine j_iload_n (pc := 4) C dX10_hasParts_4 rfl 1 rfl ?_
    refine j_aload_n (pc := 5) C dX10_hasParts_5 rfl 0 rfl ?_
    obtain ⟨q2, eq2, hd⟩ := ob_bind hd
    refine j_callV (pc := 6) (q0 := 0) (ci := 10) (As := []) (rest := [.int p1]) (st2 := [.int q2, .int p1]) (ws2 := wd_X10_hasParts G a_t t_persons t_deals t_lawYears t_toldParts a_t_personNames a_t_born a_t_dies a_t_limit a_t_dealNames a_t_lender a_t_borrower a_t_year a_t_lenderGain a_t_borrowerGain a_t_either a_t_byYear a_t_memo) C (ct_X10_partsCount l G a_t t_persons t_deals t_lawYears t_toldParts a_t_personNames a_t_born a_t_dies a_t_limit a_t_dealNames a_t_lender a_t_borrower a_t_year a_t_lenderGain a_t_borrowerGain a_t_either a_t_byYear a_t_memo q2 eq2) jy_X10_partsCount dX10_hasParts_6 gX10_hasParts_X10_partsCount rfl rfl (by decide) ⟨Nat.zero_le _, Nat.zero_le _⟩ [0] rfl rfl (jpt_eq rfl rfl rfl) rfl rfl rfl (Nat.le_of_ble_eq_true rfl) rfl ?_
    refine j_icmp_ge (pc := 9) (tgt := 16) C dX10_hasParts_9 (by decide) (fun c3 => ?_) (fun c3 => ?_)
    · have hd := ob_pos c3 hd
      refine j_iconst (pc := 16) (v := 0) C dX10_hasParts_16 jk_I0 ?_
      obtain rfl := Option.some.inj hd
      exact j_zret (pc := 17) C hE dX10_hasParts_17 rfl rfl rfl
    · have hd := ob_neg c3 hd
      refine j_iconst (pc := 12) (v := 1) C dX10_hasParts_12 jk_I1 ?_
      refine j_goto (pc := 13) (tgt := 17) C dX10_hasParts_13 (by decide) ?_
      obtain rfl := Option.some.inj hd
      exact j_zret (pc := 17) C hE dX10_hasParts_17 rfl rfl rfl
/-! ##### LendTown$Town.isAtRest(I)Z -/
abbrev rm_X10_isAtRest : Room := { frames := 3, cells := 0, slots := 0, locals := 70 }
theorem jy_X10_isAtRest : jY yX10_isAtRest wsX10_isAtRest rm_X10_isAtRest cX10_isAtRest 3 (some .boolean) 1 := ⟨⟨_, rfl⟩, ⟨rfl, rfl⟩, by decide, by decide, by decide +kernel⟩
theorem in_X10_isAtRest_X10 : ∀ w ∈ u_ws RX10 TX10 17, w ∈ wsX10_isAtRest := fun w h => List.mem_cons_of_mem _ (List.mem_append_right _ (h))
theorem fl_X10_isAtRest_9 : Cond.fieldLink RX10 9 "LendTown$Town" "persons" "I" ∈ wsX10_isAtRest := List.mem_of_getElem? (i := 1) rfl
def wd_X10_isAtRest (G : jG) (a_t : Nat) (a_t_borrower : Nat) (a_t_borrowerGain : Nat) (a_t_either : Nat) (a_t_lender : Nat) (a_t_lenderGain : Nat) (t_persons : Int32) (t_deals : Int32) (t_lawYears : Int32) (t_toldParts : Int32) (a_t_personNames : Nat) (a_t_born : Nat) (a_t_dies : Nat) (a_t_limit : Nat) (a_t_dealNames : Nat) (a_t_year : Nat) (a_t_byYear : Nat) (a_t_memo : Nat) (t_borrower : Nat → Int32) (t_borrowerGain : Nat → Int32) (t_either : Nat → Int32) (t_lender : Nat → Int32) (t_lenderGain : Nat → Int32) : va_W := [(a_t, .inr (10, [.int t_persons, .int t_deals, .int t_lawYears, .int t_toldParts, .ref a_t_personNames, .ref a_t_born, .ref a_t_dies, .ref a_t_limit, .ref a_t_dealNames, .ref a_t_lender, .ref a_t_borrower, .ref a_t_year, .ref a_t_lenderGain, .ref a_t_borrowerGain, .ref a_t_either, .ref a_t_byYear, .ref a_t_memo])), (a_t_borrower, .inl (G.2.2.1, 30, .inl t_borrower)), (a_t_borrowerGain, .inl (G.2.2.1, 30, .inl t_borrowerGain)), (a_t_either, .inl (G.2.2.1, 30, .inl t_either)), (a_t_lender, .inl (G.2.2.1, 30, .inl t_lender)), (a_t_lenderGain, .inl (G.2.2.1, 30, .inl t_lenderGain))]
set_option maxHeartbeats 8000000 in
set_option maxRecDepth 100000 in
theorem lb_X10_isAtRest_0 (l : Launch) (G : jG) (a_t : Nat) (a_t_borrower : Nat) (a_t_borrowerGain : Nat) (a_t_either : Nat) (a_t_lender : Nat) (a_t_lenderGain : Nat) (t_persons : Int32) (t_deals : Int32) (t_lawYears : Int32) (t_toldParts : Int32) (a_t_personNames : Nat) (a_t_born : Nat) (a_t_dies : Nat) (a_t_limit : Nat) (a_t_dealNames : Nat) (a_t_year : Nat) (a_t_byYear : Nat) (a_t_memo : Nat) (t_borrower : Nat → Int32) (t_borrowerGain : Nat → Int32) (t_either : Nat → Int32) (t_lender : Nat → Int32) (t_lenderGain : Nat → Int32) (p1 : Int32) (X : jX) (C : jC X l G 3 rm_X10_isAtRest cX10_isAtRest RX10 wsX10_isAtRest) (r : Bool) (hE : jE X (some .boolean) (some (.int (b2i r))) (wd_X10_isAtRest G a_t a_t_borrower a_t_borrowerGain a_t_either a_t_lender a_t_lenderGain t_persons t_deals t_lawYears t_toldParts a_t_personNames a_t_born a_t_dies a_t_limit a_t_dealNames a_t_year a_t_byYear a_t_memo t_borrower t_borrowerGain t_either t_lender t_lenderGain)) (n : Nat) (IH0 : ∀ (v2 : Int32), lpN (st_X10_isAtRest t_persons t_deals t_borrower t_borrowerGain t_either t_lender t_lenderGain p1) n (v2) = some r → J X 0 0 (wd_X10_isAtRest G a_t a_t_borrower a_t_borrowerGain a_t_either a_t_lender a_t_lenderGain t_persons t_deals t_lawYears t_toldParts a_t_personNames a_t_born a_t_dies a_t_limit a_t_dealNames a_t_year a_t_byYear a_t_memo t_borrower t_borrowerGain t_either t_lender t_lenderGain) [(0, .ref a_t), (1, .int p1), (2, .int v2)] 2 []) (v2 : Int32) (hd : lpR (st_X10_isAtRest t_persons t_deals t_borrower t_borrowerGain t_either t_lender t_lenderGain p1) n (bd_X10_isAtRest_0 t_persons t_deals t_borrower t_borrowerGain t_either t_lender t_lenderGain p1 v2) = some r) : J X 0 0 (wd_X10_isAtRest G a_t a_t_borrower a_t_borrowerGain a_t_either a_t_lender a_t_lenderGain t_persons t_deals t_lawYears t_toldParts a_t_personNames a_t_born a_t_dies a_t_limit a_t_dealNames a_t_year a_t_byYear a_t_memo t_borrower t_borrowerGain t_either t_lender t_lenderGain) [(0, .ref a_t), (1, .int p1), (2, .int v2)] 2 [] := by
  unfold bd_X10_isAtRest_0 at hd
  refine j_iload_n (pc := 2) C dX10_isAtRest_2 rfl 2 rfl ?_
  refine j_aload_n (pc := 3) C dX10_isAtRest_3 rfl 0 rfl ?_
  refine j_get (pc := 4) (q0 := 0) (ci := 10) (kf := 0) C dX10_isAtRest_4 in_X10_isAtRest_X10 rfl (by decide) fl_X10_isAtRest_9 rfl rfl ?_
  refine j_icmp_ge (pc := 7) (tgt := 27) C dX10_isAtRest_7 (by decide) (fun c1 => ?_) (fun c1 => ?_)
  · have hd := lp_pos c1 hd
    refine j_iconst (pc := 27) (v := 1) C dX10_isAtRest_27 jk_I1 ?_
    obtain rfl := Option.some.inj hd
    exact j_zret (pc := 28) C hE dX10_isAtRest_28 rfl rfl rfl
  · have hd := lp_neg c1 hd
    refine j_aload_n (pc := 10) C dX10_isAtRest_10 rfl 0 rfl ?_
    refine j_iload_n (pc := 11) C dX10_isAtRest_11 rfl 2 rfl ?_
    refine j_iload_n (pc := 12) C dX10_isAtRest_12 rfl 1 rfl ?_
    obtain ⟨q2, eq2, hd⟩ := lp_bind hd
    refine j_callV (pc := 13) (q0 := 0) (ci := 10) (As := [.int v2, .int p1]) (rest := []) (st2 := [.int (b2i q2)]) (ws2 := wd_X10_isAtRest G a_t a_t_borrower a_t_borrowerGain a_t_either a_t_lender a_t_lenderGain t_persons t_deals t_lawYears t_toldParts a_t_personNames a_t_born a_t_dies a_t_limit a_t_dealNames a_t_year a_t_byYear a_t_memo t_borrower t_borrowerGain t_either t_lender t_lenderGain) C (ct_X10_hasMoreByChange l G a_t a_t_borrower a_t_borrowerGain a_t_either a_t_lender a_t_lenderGain t_persons t_deals t_lawYears t_toldParts a_t_personNames a_t_born a_t_dies a_t_limit a_t_dealNames a_t_year a_t_byYear a_t_memo t_borrower t_borrowerGain t_either t_lender t_lenderGain v2 p1 q2 eq2) jy_X10_hasMoreByChange dX10_isAtRest_13 gX10_isAtRest_X10_hasMoreByChange rfl rfl (by decide) ⟨Nat.zero_le _, Nat.zero_le _⟩ [0, 1, 2, 3, 4, 5] rfl rfl (jpt_eq rfl rfl rfl) rfl rfl rfl (Nat.le_of_ble_eq_true rfl) rfl ?_
    refine j_ifb_eq (pc := 16) (tgt := 21) C dX10_isAtRest_16 (by decide) (fun c3 => ?_) (fun c3 => ?_)
    · have hd := lp_neg c3 hd
      refine j_iinc (pc := 21) (lv2 := [(0, .ref a_t), (1, .int p1), (2, .int (v2 + 1))]) C dX10_isAtRest_21 jk_I1 (by decide) 2 rfl [1, 2, 0] rfl ?_
      refine j_goto (pc := 24) (tgt := 2) C dX10_isAtRest_24 (by decide) ?_
      refine j_sub (lv2 := [(0, .ref a_t), (1, .int p1), (2, .int (v2 + 1))]) [0, 1, 2] rfl ?_
      exact IH0 (v2 + 1) hd
    · have hd := lp_pos c3 hd
      refine j_iconst (pc := 19) (v := 0) C dX10_isAtRest_19 jk_I0 ?_
      obtain rfl := Option.some.inj hd
      exact j_zret (pc := 20) C hE dX10_isAtRest_20 rfl rfl rfl
set_option maxHeartbeats 8000000 in
set_option maxRecDepth 100000 in
theorem la_X10_isAtRest (l : Launch) (G : jG) (a_t : Nat) (a_t_borrower : Nat) (a_t_borrowerGain : Nat) (a_t_either : Nat) (a_t_lender : Nat) (a_t_lenderGain : Nat) (t_persons : Int32) (t_deals : Int32) (t_lawYears : Int32) (t_toldParts : Int32) (a_t_personNames : Nat) (a_t_born : Nat) (a_t_dies : Nat) (a_t_limit : Nat) (a_t_dealNames : Nat) (a_t_year : Nat) (a_t_byYear : Nat) (a_t_memo : Nat) (t_borrower : Nat → Int32) (t_borrowerGain : Nat → Int32) (t_either : Nat → Int32) (t_lender : Nat → Int32) (t_lenderGain : Nat → Int32) (p1 : Int32) (X : jX) (C : jC X l G 3 rm_X10_isAtRest cX10_isAtRest RX10 wsX10_isAtRest) (r : Bool) (hE : jE X (some .boolean) (some (.int (b2i r))) (wd_X10_isAtRest G a_t a_t_borrower a_t_borrowerGain a_t_either a_t_lender a_t_lenderGain t_persons t_deals t_lawYears t_toldParts a_t_personNames a_t_born a_t_dies a_t_limit a_t_dealNames a_t_year a_t_byYear a_t_memo t_borrower t_borrowerGain t_either t_lender t_lenderGain)) (n : Nat) : (∀ (v2 : Int32), lpN (st_X10_isAtRest t_persons t_deals t_borrower t_borrowerGain t_either t_lender t_lenderGain p1) n (v2) = some r → J X 0 0 (wd_X10_isAtRest G a_t a_t_borrower a_t_borrowerGain a_t_either a_t_lender a_t_lenderGain t_persons t_deals t_lawYears t_toldParts a_t_personNames a_t_born a_t_dies a_t_limit a_t_dealNames a_t_year a_t_byYear a_t_memo t_borrower t_borrowerGain t_either t_lender t_lenderGain) [(0, .ref a_t), (1, .int p1), (2, .int v2)] 2 []) := by
  induction n with
  | zero => exact (fun v2 h => by cases h)
  | succ n ih => exact (fun v2 h => lb_X10_isAtRest_0 l G a_t a_t_borrower a_t_borrowerGain a_t_either a_t_lender a_t_lenderGain t_persons t_deals t_lawYears t_toldParts a_t_personNames a_t_born a_t_dies a_t_limit a_t_dealNames a_t_year a_t_byYear a_t_memo t_borrower t_borrowerGain t_either t_lender t_lenderGain p1 X C r hE n (ih) v2 (by rw [lpN_succ] at h; exact h))
set_option maxHeartbeats 8000000 in
set_option maxRecDepth 100000 in
theorem ct_X10_isAtRest (l : Launch) (G : jG) (a_t : Nat) (a_t_borrower : Nat) (a_t_borrowerGain : Nat) (a_t_either : Nat) (a_t_lender : Nat) (a_t_lenderGain : Nat) (t_persons : Int32) (t_deals : Int32) (t_lawYears : Int32) (t_toldParts : Int32) (a_t_personNames : Nat) (a_t_born : Nat) (a_t_dies : Nat) (a_t_limit : Nat) (a_t_dealNames : Nat) (a_t_year : Nat) (a_t_byYear : Nat) (a_t_memo : Nat) (t_borrower : Nat → Int32) (t_borrowerGain : Nat → Int32) (t_either : Nat → Int32) (t_lender : Nat → Int32) (t_lenderGain : Nat → Int32) (p1 : Int32) (r : Bool) (hd : dn_X10_isAtRest t_persons t_deals t_borrower t_borrowerGain t_either t_lender t_lenderGain p1 = some r) : jM l G yX10_isAtRest wsX10_isAtRest rm_X10_isAtRest [.ref a_t, .int p1] (wd_X10_isAtRest G a_t a_t_borrower a_t_borrowerGain a_t_either a_t_lender a_t_lenderGain t_persons t_deals t_lawYears t_toldParts a_t_personNames a_t_born a_t_dies a_t_limit a_t_dealNames a_t_year a_t_byYear a_t_memo t_borrower t_borrowerGain t_either t_lender t_lenderGain) (some (.int (b2i r))) (wd_X10_isAtRest G a_t a_t_borrower a_t_borrowerGain a_t_either a_t_lender a_t_lenderGain t_persons t_deals t_lawYears t_toldParts a_t_personNames a_t_born a_t_dies a_t_limit a_t_dealNames a_t_year a_t_byYear a_t_memo t_borrower t_borrowerGain t_either t_lender t_lenderGain) := by
  refine jM_of (own := RX10) (by decide) rfl rfl rfl (Nat.le_of_ble_eq_true rfl) (lv0 := [(0, .ref a_t), (1, .int p1)]) rfl (fun X C hE => ?_)
  unfold dn_X10_isAtRest at hd
  refine j_iconst (pc := 0) (v := 0) C dX10_isAtRest_0 jk_I0 ?_
  refine j_istore_n (pc := 1) (lv2 := [(0, .ref a_t), (1, .int p1), (2, .int 0)]) C dX10_isAtRest_1 rfl (by decide) [1, 2, 0] rfl ?_
  refine j_sub (lv2 := [(0, .ref a_t), (1, .int p1), (2, .int 0)]) [0, 1, 2] rfl ?_
  obtain ⟨n, hn⟩ := lpC_ex hd
  exact (la_X10_isAtRest l G a_t a_t_borrower a_t_borrowerGain a_t_either a_t_lender a_t_lenderGain t_persons t_deals t_lawYears t_toldParts a_t_personNames a_t_born a_t_dies a_t_limit a_t_dealNames a_t_year a_t_byYear a_t_memo t_borrower t_borrowerGain t_either t_lender t_lenderGain p1 X C r hE n) 0 hn
/-! ##### LendTown$Town.personsWithDeals()I -/
abbrev rm_X10_personsWithDeals : Room := { frames := 0, cells := 0, slots := 0, locals := 0 }
theorem jy_X10_personsWithDeals : jY yX10_personsWithDeals wsX10_personsWithDeals rm_X10_personsWithDeals cX10_personsWithDeals 3 (some .int) 0 := ⟨⟨_, rfl⟩, ⟨rfl, rfl⟩, by decide, by decide, by decide +kernel⟩
theorem in_X10_personsWithDeals_X10 : ∀ w ∈ u_ws RX10 TX10 17, w ∈ wsX10_personsWithDeals := fun w h => List.mem_cons_of_mem _ (List.mem_append_right _ (h))
theorem fl_X10_personsWithDeals_15 : Cond.fieldLink RX10 15 "LendTown$Town" "deals" "I" ∈ wsX10_personsWithDeals := List.mem_of_getElem? (i := 1) rfl
theorem fl_X10_personsWithDeals_41 : Cond.fieldLink RX10 41 "LendTown$Town" "lender" "[I" ∈ wsX10_personsWithDeals := List.mem_of_getElem? (i := 2) rfl
theorem fl_X10_personsWithDeals_44 : Cond.fieldLink RX10 44 "LendTown$Town" "borrower" "[I" ∈ wsX10_personsWithDeals := List.mem_of_getElem? (i := 3) rfl
def wd_X10_personsWithDeals (G : jG) (a_t : Nat) (a_t_borrower : Nat) (a_t_lender : Nat) (t_persons : Int32) (t_deals : Int32) (t_lawYears : Int32) (t_toldParts : Int32) (a_t_personNames : Nat) (a_t_born : Nat) (a_t_dies : Nat) (a_t_limit : Nat) (a_t_dealNames : Nat) (a_t_year : Nat) (a_t_lenderGain : Nat) (a_t_borrowerGain : Nat) (a_t_either : Nat) (a_t_byYear : Nat) (a_t_memo : Nat) (t_borrower : Nat → Int32) (t_lender : Nat → Int32) : va_W := [(a_t, .inr (10, [.int t_persons, .int t_deals, .int t_lawYears, .int t_toldParts, .ref a_t_personNames, .ref a_t_born, .ref a_t_dies, .ref a_t_limit, .ref a_t_dealNames, .ref a_t_lender, .ref a_t_borrower, .ref a_t_year, .ref a_t_lenderGain, .ref a_t_borrowerGain, .ref a_t_either, .ref a_t_byYear, .ref a_t_memo])), (a_t_borrower, .inl (G.2.2.1, 30, .inl t_borrower)), (a_t_lender, .inl (G.2.2.1, 30, .inl t_lender))]
set_option maxHeartbeats 8000000 in
set_option maxRecDepth 100000 in
theorem lb_X10_personsWithDeals_0 (l : Launch) (G : jG) (a_t : Nat) (a_t_borrower : Nat) (a_t_lender : Nat) (t_persons : Int32) (t_deals : Int32) (t_lawYears : Int32) (t_toldParts : Int32) (a_t_personNames : Nat) (a_t_born : Nat) (a_t_dies : Nat) (a_t_limit : Nat) (a_t_dealNames : Nat) (a_t_year : Nat) (a_t_lenderGain : Nat) (a_t_borrowerGain : Nat) (a_t_either : Nat) (a_t_byYear : Nat) (a_t_memo : Nat) (t_borrower : Nat → Int32) (t_lender : Nat → Int32)  (X : jX) (C : jC X l G 3 rm_X10_personsWithDeals cX10_personsWithDeals RX10 wsX10_personsWithDeals) (r : Int32) (hE : jE X (some .int) (some (.int r)) (wd_X10_personsWithDeals G a_t a_t_borrower a_t_lender t_persons t_deals t_lawYears t_toldParts a_t_personNames a_t_born a_t_dies a_t_limit a_t_dealNames a_t_year a_t_lenderGain a_t_borrowerGain a_t_either a_t_byYear a_t_memo t_borrower t_lender)) (n : Nat) (IH0 : ∀ (v1 : Int32) (v2 : Int32), lpN (st_X10_personsWithDeals t_deals t_borrower t_lender) n ((v1, v2)) = some r → J X 0 0 (wd_X10_personsWithDeals G a_t a_t_borrower a_t_lender t_persons t_deals t_lawYears t_toldParts a_t_personNames a_t_born a_t_dies a_t_limit a_t_dealNames a_t_year a_t_lenderGain a_t_borrowerGain a_t_either a_t_byYear a_t_memo t_borrower t_lender) [(0, .ref a_t), (1, .int v1), (2, .int v2)] 4 []) (v1 : Int32) (v2 : Int32) (hd : lpR (st_X10_personsWithDeals t_deals t_borrower t_lender) n (bd_X10_personsWithDeals_0 t_deals t_borrower t_lender v1 v2) = some r) : J X 0 0 (wd_X10_personsWithDeals G a_t a_t_borrower a_t_lender t_persons t_deals t_lawYears t_toldParts a_t_personNames a_t_born a_t_dies a_t_limit a_t_dealNames a_t_year a_t_lenderGain a_t_borrowerGain a_t_either a_t_byYear a_t_memo t_borrower t_lender) [(0, .ref a_t), (1, .int v1), (2, .int v2)] 4 [] := by
  unfold bd_X10_personsWithDeals_0 at hd
  refine j_iload_n (pc := 4) C dX10_personsWithDeals_4 rfl 2 rfl ?_
  refine j_aload_n (pc := 5) C dX10_personsWithDeals_5 rfl 0 rfl ?_
  refine j_get (pc := 6) (q0 := 0) (ci := 10) (kf := 1) C dX10_personsWithDeals_6 in_X10_personsWithDeals_X10 rfl (by decide) fl_X10_personsWithDeals_15 rfl rfl ?_
  refine j_icmp_ge (pc := 9) (tgt := 38) C dX10_personsWithDeals_9 (by decide) (fun c1 => ?_) (fun c1 => ?_)
  · have hd := lp_pos c1 hd
    refine j_iload_n (pc := 38) C dX10_personsWithDeals_38 rfl 1 rfl ?_
    obtain rfl := Option.some.inj hd
    exact j_iret (pc := 39) C hE dX10_personsWithDeals_39 rfl rfl
  · have hd := lp_neg c1 hd
    refine j_iload_n (pc := 12) C dX10_personsWithDeals_12 rfl 1 rfl ?_
    refine j_iconst (pc := 13) (v := 1) C dX10_personsWithDeals_13 jk_I1 ?_
    refine j_aload_n (pc := 14) C dX10_personsWithDeals_14 rfl 0 rfl ?_
    refine j_get (pc := 15) (q0 := 0) (ci := 10) (kf := 9) C dX10_personsWithDeals_15 in_X10_personsWithDeals_X10 rfl (by decide) fl_X10_personsWithDeals_41 rfl rfl ?_
    refine j_iload_n (pc := 18) C dX10_personsWithDeals_18 rfl 2 rfl ?_
    obtain ⟨h2, hd⟩ := lp_chk hd
    refine j_iald (pc := 19) (q0 := 2) C dX10_personsWithDeals_19 rfl h2 ?_
    refine j_ishl (pc := 20) C dX10_personsWithDeals_20 ?_
    refine j_iconst (pc := 21) (v := 1) C dX10_personsWithDeals_21 jk_I1 ?_
    refine j_aload_n (pc := 22) C dX10_personsWithDeals_22 rfl 0 rfl ?_
    refine j_get (pc := 23) (q0 := 0) (ci := 10) (kf := 10) C dX10_personsWithDeals_23 in_X10_personsWithDeals_X10 rfl (by decide) fl_X10_personsWithDeals_44 rfl rfl ?_
    refine j_iload_n (pc := 26) C dX10_personsWithDeals_26 rfl 2 rfl ?_
    obtain ⟨h3, hd⟩ := lp_chk hd
    refine j_iald (pc := 27) (q0 := 1) C dX10_personsWithDeals_27 rfl h3 ?_
    refine j_ishl (pc := 28) C dX10_personsWithDeals_28 ?_
    refine j_ior (pc := 29) C dX10_personsWithDeals_29 ?_
    refine j_ior (pc := 30) C dX10_personsWithDeals_30 ?_
    refine j_istore_n (pc := 31) (lv2 := [(0, .ref a_t), (1, .int (v1 ||| (((1 : Int32) <<< ((t_lender (v2).toNatClampNeg) &&& 31)) ||| ((1 : Int32) <<< ((t_borrower (v2).toNatClampNeg) &&& 31))))), (2, .int v2)]) C dX10_personsWithDeals_31 rfl (by decide) [1, 0, 2] rfl ?_
    refine j_iinc (pc := 32) (lv2 := [(0, .ref a_t), (1, .int (v1 ||| (((1 : Int32) <<< ((t_lender (v2).toNatClampNeg) &&& 31)) ||| ((1 : Int32) <<< ((t_borrower (v2).toNatClampNeg) &&& 31))))), (2, .int (v2 + 1))]) C dX10_personsWithDeals_32 jk_I1 (by decide) 2 rfl [1, 2, 0] rfl ?_
    refine j_goto (pc := 35) (tgt := 4) C dX10_personsWithDeals_35 (by decide) ?_
    refine j_sub (lv2 := [(0, .ref a_t), (1, .int (v1 ||| (((1 : Int32) <<< ((t_lender (v2).toNatClampNeg) &&& 31)) ||| ((1 : Int32) <<< ((t_borrower (v2).toNatClampNeg) &&& 31))))), (2, .int (v2 + 1))]) [0, 1, 2] rfl ?_
    exact IH0 (v1 ||| (((1 : Int32) <<< ((t_lender (v2).toNatClampNeg) &&& 31)) ||| ((1 : Int32) <<< ((t_borrower (v2).toNatClampNeg) &&& 31)))) (v2 + 1) hd
set_option maxHeartbeats 8000000 in
set_option maxRecDepth 100000 in
theorem la_X10_personsWithDeals (l : Launch) (G : jG) (a_t : Nat) (a_t_borrower : Nat) (a_t_lender : Nat) (t_persons : Int32) (t_deals : Int32) (t_lawYears : Int32) (t_toldParts : Int32) (a_t_personNames : Nat) (a_t_born : Nat) (a_t_dies : Nat) (a_t_limit : Nat) (a_t_dealNames : Nat) (a_t_year : Nat) (a_t_lenderGain : Nat) (a_t_borrowerGain : Nat) (a_t_either : Nat) (a_t_byYear : Nat) (a_t_memo : Nat) (t_borrower : Nat → Int32) (t_lender : Nat → Int32)  (X : jX) (C : jC X l G 3 rm_X10_personsWithDeals cX10_personsWithDeals RX10 wsX10_personsWithDeals) (r : Int32) (hE : jE X (some .int) (some (.int r)) (wd_X10_personsWithDeals G a_t a_t_borrower a_t_lender t_persons t_deals t_lawYears t_toldParts a_t_personNames a_t_born a_t_dies a_t_limit a_t_dealNames a_t_year a_t_lenderGain a_t_borrowerGain a_t_either a_t_byYear a_t_memo t_borrower t_lender)) (n : Nat) : (∀ (v1 : Int32) (v2 : Int32), lpN (st_X10_personsWithDeals t_deals t_borrower t_lender) n ((v1, v2)) = some r → J X 0 0 (wd_X10_personsWithDeals G a_t a_t_borrower a_t_lender t_persons t_deals t_lawYears t_toldParts a_t_personNames a_t_born a_t_dies a_t_limit a_t_dealNames a_t_year a_t_lenderGain a_t_borrowerGain a_t_either a_t_byYear a_t_memo t_borrower t_lender) [(0, .ref a_t), (1, .int v1), (2, .int v2)] 4 []) := by
  induction n with
  | zero => exact (fun v1 v2 h => by cases h)
  | succ n ih => exact (fun v1 v2 h => lb_X10_personsWithDeals_0 l G a_t a_t_borrower a_t_lender t_persons t_deals t_lawYears t_toldParts a_t_personNames a_t_born a_t_dies a_t_limit a_t_dealNames a_t_year a_t_lenderGain a_t_borrowerGain a_t_either a_t_byYear a_t_memo t_borrower t_lender X C r hE n (ih) v1 v2 (by rw [lpN_succ] at h; exact h))
set_option maxHeartbeats 8000000 in
set_option maxRecDepth 100000 in
theorem ct_X10_personsWithDeals (l : Launch) (G : jG) (a_t : Nat) (a_t_borrower : Nat) (a_t_lender : Nat) (t_persons : Int32) (t_deals : Int32) (t_lawYears : Int32) (t_toldParts : Int32) (a_t_personNames : Nat) (a_t_born : Nat) (a_t_dies : Nat) (a_t_limit : Nat) (a_t_dealNames : Nat) (a_t_year : Nat) (a_t_lenderGain : Nat) (a_t_borrowerGain : Nat) (a_t_either : Nat) (a_t_byYear : Nat) (a_t_memo : Nat) (t_borrower : Nat → Int32) (t_lender : Nat → Int32)  (r : Int32) (hd : dn_X10_personsWithDeals t_deals t_borrower t_lender = some r) : jM l G yX10_personsWithDeals wsX10_personsWithDeals rm_X10_personsWithDeals [.ref a_t] (wd_X10_personsWithDeals G a_t a_t_borrower a_t_lender t_persons t_deals t_lawYears t_toldParts a_t_personNames a_t_born a_t_dies a_t_limit a_t_dealNames a_t_year a_t_lenderGain a_t_borrowerGain a_t_either a_t_byYear a_t_memo t_borrower t_lender) (some (.int r)) (wd_X10_personsWithDeals G a_t a_t_borrower a_t_lender t_persons t_deals t_lawYears t_toldParts a_t_personNames a_t_born a_t_dies a_t_limit a_t_dealNames a_t_year a_t_lenderGain a_t_borrowerGain a_t_either a_t_byYear a_t_memo t_borrower t_lender) := by
  refine jM_of (own := RX10) (by decide) rfl rfl rfl (Nat.le_of_ble_eq_true rfl) (lv0 := [(0, .ref a_t)]) rfl (fun X C hE => ?_)
  unfold dn_X10_personsWithDeals at hd
  refine j_iconst (pc := 0) (v := 0) C dX10_personsWithDeals_0 jk_I0 ?_
  refine j_istore_n (pc := 1) (lv2 := [(0, .ref a_t), (1, .int 0)]) C dX10_personsWithDeals_1 rfl (by decide) [1, 0] rfl ?_
  refine j_iconst (pc := 2) (v := 0) C dX10_personsWithDeals_2 jk_I0 ?_
  refine j_istore_n (pc := 3) (lv2 := [(0, .ref a_t), (1, .int 0), (2, .int 0)]) C dX10_personsWithDeals_3 rfl (by decide) [1, 2, 0] rfl ?_
  refine j_sub (lv2 := [(0, .ref a_t), (1, .int 0), (2, .int 0)]) [0, 1, 2] rfl ?_
  obtain ⟨n, hn⟩ := lpC_ex hd
  exact (la_X10_personsWithDeals l G a_t a_t_borrower a_t_lender t_persons t_deals t_lawYears t_toldParts a_t_personNames a_t_born a_t_dies a_t_limit a_t_dealNames a_t_year a_t_lenderGain a_t_borrowerGain a_t_either a_t_byYear a_t_memo t_borrower t_lender X C r hE n) 0 0 hn
/-! ##### LendTown$Town.allServed(II)Z -/
abbrev rm_X10_allServed : Room := { frames := 0, cells := 0, slots := 0, locals := 0 }
theorem jy_X10_allServed : jY yX10_allServed wsX10_allServed rm_X10_allServed cX10_allServed 5 (some .boolean) 2 := ⟨⟨_, rfl⟩, ⟨rfl, rfl⟩, by decide, by decide, by decide +kernel⟩
theorem in_X10_allServed_X10 : ∀ w ∈ u_ws RX10 TX10 17, w ∈ wsX10_allServed := fun w h => List.mem_cons_of_mem _ (List.mem_append_right _ (h))
theorem fl_X10_allServed_15 : Cond.fieldLink RX10 15 "LendTown$Town" "deals" "I" ∈ wsX10_allServed := List.mem_of_getElem? (i := 1) rfl
theorem fl_X10_allServed_41 : Cond.fieldLink RX10 41 "LendTown$Town" "lender" "[I" ∈ wsX10_allServed := List.mem_of_getElem? (i := 2) rfl
theorem fl_X10_allServed_44 : Cond.fieldLink RX10 44 "LendTown$Town" "borrower" "[I" ∈ wsX10_allServed := List.mem_of_getElem? (i := 3) rfl
theorem fl_X10_allServed_56 : Cond.fieldLink RX10 56 "LendTown$Town" "either" "[I" ∈ wsX10_allServed := List.mem_of_getElem? (i := 4) rfl
def wd_X10_allServed (G : jG) (a_t : Nat) (a_t_borrower : Nat) (a_t_either : Nat) (a_t_lender : Nat) (t_persons : Int32) (t_deals : Int32) (t_lawYears : Int32) (t_toldParts : Int32) (a_t_personNames : Nat) (a_t_born : Nat) (a_t_dies : Nat) (a_t_limit : Nat) (a_t_dealNames : Nat) (a_t_year : Nat) (a_t_lenderGain : Nat) (a_t_borrowerGain : Nat) (a_t_byYear : Nat) (a_t_memo : Nat) (t_borrower : Nat → Int32) (t_either : Nat → Int32) (t_lender : Nat → Int32) : va_W := [(a_t, .inr (10, [.int t_persons, .int t_deals, .int t_lawYears, .int t_toldParts, .ref a_t_personNames, .ref a_t_born, .ref a_t_dies, .ref a_t_limit, .ref a_t_dealNames, .ref a_t_lender, .ref a_t_borrower, .ref a_t_year, .ref a_t_lenderGain, .ref a_t_borrowerGain, .ref a_t_either, .ref a_t_byYear, .ref a_t_memo])), (a_t_borrower, .inl (G.2.2.1, 30, .inl t_borrower)), (a_t_either, .inl (G.2.2.1, 30, .inl t_either)), (a_t_lender, .inl (G.2.2.1, 30, .inl t_lender))]
set_option maxHeartbeats 8000000 in
set_option maxRecDepth 100000 in
theorem lb_X10_allServed_0 (l : Launch) (G : jG) (a_t : Nat) (a_t_borrower : Nat) (a_t_either : Nat) (a_t_lender : Nat) (t_persons : Int32) (t_deals : Int32) (t_lawYears : Int32) (t_toldParts : Int32) (a_t_personNames : Nat) (a_t_born : Nat) (a_t_dies : Nat) (a_t_limit : Nat) (a_t_dealNames : Nat) (a_t_year : Nat) (a_t_lenderGain : Nat) (a_t_borrowerGain : Nat) (a_t_byYear : Nat) (a_t_memo : Nat) (t_borrower : Nat → Int32) (t_either : Nat → Int32) (t_lender : Nat → Int32) (p1 : Int32) (p2 : Int32) (X : jX) (C : jC X l G 5 rm_X10_allServed cX10_allServed RX10 wsX10_allServed) (r : Bool) (hE : jE X (some .boolean) (some (.int (b2i r))) (wd_X10_allServed G a_t a_t_borrower a_t_either a_t_lender t_persons t_deals t_lawYears t_toldParts a_t_personNames a_t_born a_t_dies a_t_limit a_t_dealNames a_t_year a_t_lenderGain a_t_borrowerGain a_t_byYear a_t_memo t_borrower t_either t_lender)) (n : Nat) (IH1 : ∀ (v3 : Int32) (v4 : Int32), lpN (st_X10_allServed t_deals t_borrower t_either t_lender p1 p2) n (.inr ((v3, v4))) = some r → J X 0 0 (wd_X10_allServed G a_t a_t_borrower a_t_either a_t_lender t_persons t_deals t_lawYears t_toldParts a_t_personNames a_t_born a_t_dies a_t_limit a_t_dealNames a_t_year a_t_lenderGain a_t_borrowerGain a_t_byYear a_t_memo t_borrower t_either t_lender) [(0, .ref a_t), (1, .int p1), (2, .int p2), (3, .int v3), (4, .int v4)] 41 []) (v3 : Int32) (v4 : Int32) (hd : lpR (st_X10_allServed t_deals t_borrower t_either t_lender p1 p2) n (bd_X10_allServed_0 t_deals t_borrower t_either t_lender p1 p2 v3 v4) = some r) : J X 0 0 (wd_X10_allServed G a_t a_t_borrower a_t_either a_t_lender t_persons t_deals t_lawYears t_toldParts a_t_personNames a_t_born a_t_dies a_t_limit a_t_dealNames a_t_year a_t_lenderGain a_t_borrowerGain a_t_byYear a_t_memo t_borrower t_either t_lender) [(0, .ref a_t), (1, .int p1), (2, .int p2), (3, .int v3), (4, .int v4)] 5 [] := by
  unfold bd_X10_allServed_0 at hd
  refine j_iload (pc := 5) C dX10_allServed_5 4 rfl ?_
  refine j_aload_n (pc := 7) C dX10_allServed_7 rfl 0 rfl ?_
  refine j_get (pc := 8) (q0 := 0) (ci := 10) (kf := 1) C dX10_allServed_8 in_X10_allServed_X10 rfl (by decide) fl_X10_allServed_15 rfl rfl ?_
  refine j_icmp_ge (pc := 11) (tgt := 85) C dX10_allServed_11 (by decide) (fun c1 => ?_) (fun c1 => ?_)
  · have hd := lp_pos c1 hd
    refine j_iload_n (pc := 85) C dX10_allServed_85 rfl 2 rfl ?_
    refine j_iload_n (pc := 86) C dX10_allServed_86 rfl 3 rfl ?_
    refine j_iconst (pc := 87) (v := (-1)) C dX10_allServed_87 jk_Im1 ?_
    refine j_ixor (pc := 88) C dX10_allServed_88 ?_
    refine j_iand (pc := 89) C dX10_allServed_89 ?_
    refine j_if_ne (pc := 90) (tgt := 97) C dX10_allServed_90 (by decide) (fun c2 => ?_) (fun c2 => ?_)
    · have hd := lp_neg c2 hd
      refine j_iconst (pc := 97) (v := 0) C dX10_allServed_97 jk_I0 ?_
      obtain rfl := Option.some.inj hd
      exact j_zret (pc := 98) C hE dX10_allServed_98 rfl rfl rfl
    · have hd := lp_pos c2 hd
      refine j_iconst (pc := 93) (v := 1) C dX10_allServed_93 jk_I1 ?_
      refine j_goto (pc := 94) (tgt := 98) C dX10_allServed_94 (by decide) ?_
      obtain rfl := Option.some.inj hd
      exact j_zret (pc := 98) C hE dX10_allServed_98 rfl rfl rfl
  · have hd := lp_neg c1 hd
    refine j_iload_n (pc := 14) C dX10_allServed_14 rfl 1 rfl ?_
    refine j_aload_n (pc := 15) C dX10_allServed_15 rfl 0 rfl ?_
    refine j_get (pc := 16) (q0 := 0) (ci := 10) (kf := 9) C dX10_allServed_16 in_X10_allServed_X10 rfl (by decide) fl_X10_allServed_41 rfl rfl ?_
    refine j_iload (pc := 19) C dX10_allServed_19 4 rfl ?_
    obtain ⟨h3, hd⟩ := lp_chk hd
    refine j_iald (pc := 21) (q0 := 3) C dX10_allServed_21 rfl h3 ?_
    refine j_ishr (pc := 22) C dX10_allServed_22 ?_
    refine j_iconst (pc := 23) (v := 1) C dX10_allServed_23 jk_I1 ?_
    refine j_iand (pc := 24) C dX10_allServed_24 ?_
    refine j_iconst (pc := 25) (v := 1) C dX10_allServed_25 jk_I1 ?_
    refine j_icmp_ne (pc := 26) (tgt := 41) C dX10_allServed_26 (by decide) (fun c4 => ?_) (fun c4 => ?_)
    · have hd := lp_neg c4 hd
      refine j_sub (lv2 := [(0, .ref a_t), (1, .int p1), (2, .int p2), (3, .int v3), (4, .int v4)]) [0, 1, 2, 3, 4] rfl ?_
      exact IH1 v3 v4 hd
    · have hd := lp_pos c4 hd
      refine j_iload_n (pc := 29) C dX10_allServed_29 rfl 3 rfl ?_
      refine j_iconst (pc := 30) (v := 1) C dX10_allServed_30 jk_I1 ?_
      refine j_aload_n (pc := 31) C dX10_allServed_31 rfl 0 rfl ?_
      refine j_get (pc := 32) (q0 := 0) (ci := 10) (kf := 10) C dX10_allServed_32 in_X10_allServed_X10 rfl (by decide) fl_X10_allServed_44 rfl rfl ?_
      refine j_iload (pc := 35) C dX10_allServed_35 4 rfl ?_
      obtain ⟨h5, hd⟩ := lp_chk hd
      refine j_iald (pc := 37) (q0 := 1) C dX10_allServed_37 rfl h5 ?_
      refine j_ishl (pc := 38) C dX10_allServed_38 ?_
      refine j_ior (pc := 39) C dX10_allServed_39 ?_
      refine j_istore_n (pc := 40) (lv2 := [(0, .ref a_t), (1, .int p1), (2, .int p2), (3, .int (v3 ||| ((1 : Int32) <<< ((t_borrower (v4).toNatClampNeg) &&& 31)))), (4, .int v4)]) C dX10_allServed_40 rfl (by decide) [1, 2, 3, 0, 4] rfl ?_
      refine j_sub (lv2 := [(0, .ref a_t), (1, .int p1), (2, .int p2), (3, .int (v3 ||| ((1 : Int32) <<< ((t_borrower (v4).toNatClampNeg) &&& 31)))), (4, .int v4)]) [0, 1, 2, 3, 4] rfl ?_
      exact IH1 (v3 ||| ((1 : Int32) <<< ((t_borrower (v4).toNatClampNeg) &&& 31))) v4 hd
set_option maxHeartbeats 8000000 in
set_option maxRecDepth 100000 in
theorem lb_X10_allServed_1 (l : Launch) (G : jG) (a_t : Nat) (a_t_borrower : Nat) (a_t_either : Nat) (a_t_lender : Nat) (t_persons : Int32) (t_deals : Int32) (t_lawYears : Int32) (t_toldParts : Int32) (a_t_personNames : Nat) (a_t_born : Nat) (a_t_dies : Nat) (a_t_limit : Nat) (a_t_dealNames : Nat) (a_t_year : Nat) (a_t_lenderGain : Nat) (a_t_borrowerGain : Nat) (a_t_byYear : Nat) (a_t_memo : Nat) (t_borrower : Nat → Int32) (t_either : Nat → Int32) (t_lender : Nat → Int32) (p1 : Int32) (p2 : Int32) (X : jX) (C : jC X l G 5 rm_X10_allServed cX10_allServed RX10 wsX10_allServed) (r : Bool) (hE : jE X (some .boolean) (some (.int (b2i r))) (wd_X10_allServed G a_t a_t_borrower a_t_either a_t_lender t_persons t_deals t_lawYears t_toldParts a_t_personNames a_t_born a_t_dies a_t_limit a_t_dealNames a_t_year a_t_lenderGain a_t_borrowerGain a_t_byYear a_t_memo t_borrower t_either t_lender)) (n : Nat) (IH0 : ∀ (v3 : Int32) (v4 : Int32), lpN (st_X10_allServed t_deals t_borrower t_either t_lender p1 p2) n (.inl (v3, v4)) = some r → J X 0 0 (wd_X10_allServed G a_t a_t_borrower a_t_either a_t_lender t_persons t_deals t_lawYears t_toldParts a_t_personNames a_t_born a_t_dies a_t_limit a_t_dealNames a_t_year a_t_lenderGain a_t_borrowerGain a_t_byYear a_t_memo t_borrower t_either t_lender) [(0, .ref a_t), (1, .int p1), (2, .int p2), (3, .int v3), (4, .int v4)] 5 []) (v3 : Int32) (v4 : Int32) (hd : lpR (st_X10_allServed t_deals t_borrower t_either t_lender p1 p2) n (bd_X10_allServed_1 t_deals t_borrower t_either t_lender p1 p2 v3 v4) = some r) : J X 0 0 (wd_X10_allServed G a_t a_t_borrower a_t_either a_t_lender t_persons t_deals t_lawYears t_toldParts a_t_personNames a_t_born a_t_dies a_t_limit a_t_dealNames a_t_year a_t_lenderGain a_t_borrowerGain a_t_byYear a_t_memo t_borrower t_either t_lender) [(0, .ref a_t), (1, .int p1), (2, .int p2), (3, .int v3), (4, .int v4)] 41 [] := by
  unfold bd_X10_allServed_1 at hd
  refine j_aload_n (pc := 41) C dX10_allServed_41 rfl 0 rfl ?_
  refine j_get (pc := 42) (q0 := 0) (ci := 10) (kf := 14) C dX10_allServed_42 in_X10_allServed_X10 rfl (by decide) fl_X10_allServed_56 rfl rfl ?_
  refine j_iload (pc := 45) C dX10_allServed_45 4 rfl ?_
  obtain ⟨h6, hd⟩ := lp_chk hd
  refine j_iald (pc := 47) (q0 := 2) C dX10_allServed_47 rfl h6 ?_
  refine j_iconst (pc := 48) (v := 1) C dX10_allServed_48 jk_I1 ?_
  refine j_icmp_ne (pc := 49) (tgt := 79) C dX10_allServed_49 (by decide) (fun c7 => ?_) (fun c7 => ?_)
  · have hd := lp_neg c7 hd
    refine j_iinc (pc := 79) (lv2 := [(0, .ref a_t), (1, .int p1), (2, .int p2), (3, .int v3), (4, .int (v4 + 1))]) C dX10_allServed_79 jk_I1 (by decide) 4 rfl [1, 2, 3, 4, 0] rfl ?_
    refine j_goto (pc := 82) (tgt := 5) C dX10_allServed_82 (by decide) ?_
    refine j_sub (lv2 := [(0, .ref a_t), (1, .int p1), (2, .int p2), (3, .int v3), (4, .int (v4 + 1))]) [0, 1, 2, 3, 4] rfl ?_
    exact IH0 v3 (v4 + 1) hd
  · have hd := lp_pos c7 hd
    refine j_iload_n (pc := 52) C dX10_allServed_52 rfl 1 rfl ?_
    refine j_aload_n (pc := 53) C dX10_allServed_53 rfl 0 rfl ?_
    refine j_get (pc := 54) (q0 := 0) (ci := 10) (kf := 10) C dX10_allServed_54 in_X10_allServed_X10 rfl (by decide) fl_X10_allServed_44 rfl rfl ?_
    refine j_iload (pc := 57) C dX10_allServed_57 4 rfl ?_
    obtain ⟨h8, hd⟩ := lp_chk hd
    refine j_iald (pc := 59) (q0 := 1) C dX10_allServed_59 rfl h8 ?_
    refine j_ishr (pc := 60) C dX10_allServed_60 ?_
    refine j_iconst (pc := 61) (v := 1) C dX10_allServed_61 jk_I1 ?_
    refine j_iand (pc := 62) C dX10_allServed_62 ?_
    refine j_iconst (pc := 63) (v := 1) C dX10_allServed_63 jk_I1 ?_
    refine j_icmp_ne (pc := 64) (tgt := 79) C dX10_allServed_64 (by decide) (fun c9 => ?_) (fun c9 => ?_)
    · have hd := lp_neg c9 hd
      refine j_iinc (pc := 79) (lv2 := [(0, .ref a_t), (1, .int p1), (2, .int p2), (3, .int v3), (4, .int (v4 + 1))]) C dX10_allServed_79 jk_I1 (by decide) 4 rfl [1, 2, 3, 4, 0] rfl ?_
      refine j_goto (pc := 82) (tgt := 5) C dX10_allServed_82 (by decide) ?_
      refine j_sub (lv2 := [(0, .ref a_t), (1, .int p1), (2, .int p2), (3, .int v3), (4, .int (v4 + 1))]) [0, 1, 2, 3, 4] rfl ?_
      exact IH0 v3 (v4 + 1) hd
    · have hd := lp_pos c9 hd
      refine j_iload_n (pc := 67) C dX10_allServed_67 rfl 3 rfl ?_
      refine j_iconst (pc := 68) (v := 1) C dX10_allServed_68 jk_I1 ?_
      refine j_aload_n (pc := 69) C dX10_allServed_69 rfl 0 rfl ?_
      refine j_get (pc := 70) (q0 := 0) (ci := 10) (kf := 9) C dX10_allServed_70 in_X10_allServed_X10 rfl (by decide) fl_X10_allServed_41 rfl rfl ?_
      refine j_iload (pc := 73) C dX10_allServed_73 4 rfl ?_
      obtain ⟨h10, hd⟩ := lp_chk hd
      refine j_iald (pc := 75) (q0 := 3) C dX10_allServed_75 rfl h10 ?_
      refine j_ishl (pc := 76) C dX10_allServed_76 ?_
      refine j_ior (pc := 77) C dX10_allServed_77 ?_
      refine j_istore_n (pc := 78) (lv2 := [(0, .ref a_t), (1, .int p1), (2, .int p2), (3, .int (v3 ||| ((1 : Int32) <<< ((t_lender (v4).toNatClampNeg) &&& 31)))), (4, .int v4)]) C dX10_allServed_78 rfl (by decide) [1, 2, 3, 0, 4] rfl ?_
      refine j_iinc (pc := 79) (lv2 := [(0, .ref a_t), (1, .int p1), (2, .int p2), (3, .int (v3 ||| ((1 : Int32) <<< ((t_lender (v4).toNatClampNeg) &&& 31)))), (4, .int (v4 + 1))]) C dX10_allServed_79 jk_I1 (by decide) 4 rfl [1, 2, 3, 4, 0] rfl ?_
      refine j_goto (pc := 82) (tgt := 5) C dX10_allServed_82 (by decide) ?_
      refine j_sub (lv2 := [(0, .ref a_t), (1, .int p1), (2, .int p2), (3, .int (v3 ||| ((1 : Int32) <<< ((t_lender (v4).toNatClampNeg) &&& 31)))), (4, .int (v4 + 1))]) [0, 1, 2, 3, 4] rfl ?_
      exact IH0 (v3 ||| ((1 : Int32) <<< ((t_lender (v4).toNatClampNeg) &&& 31))) (v4 + 1) hd
set_option maxHeartbeats 8000000 in
set_option maxRecDepth 100000 in
theorem la_X10_allServed (l : Launch) (G : jG) (a_t : Nat) (a_t_borrower : Nat) (a_t_either : Nat) (a_t_lender : Nat) (t_persons : Int32) (t_deals : Int32) (t_lawYears : Int32) (t_toldParts : Int32) (a_t_personNames : Nat) (a_t_born : Nat) (a_t_dies : Nat) (a_t_limit : Nat) (a_t_dealNames : Nat) (a_t_year : Nat) (a_t_lenderGain : Nat) (a_t_borrowerGain : Nat) (a_t_byYear : Nat) (a_t_memo : Nat) (t_borrower : Nat → Int32) (t_either : Nat → Int32) (t_lender : Nat → Int32) (p1 : Int32) (p2 : Int32) (X : jX) (C : jC X l G 5 rm_X10_allServed cX10_allServed RX10 wsX10_allServed) (r : Bool) (hE : jE X (some .boolean) (some (.int (b2i r))) (wd_X10_allServed G a_t a_t_borrower a_t_either a_t_lender t_persons t_deals t_lawYears t_toldParts a_t_personNames a_t_born a_t_dies a_t_limit a_t_dealNames a_t_year a_t_lenderGain a_t_borrowerGain a_t_byYear a_t_memo t_borrower t_either t_lender)) (n : Nat) : (∀ (v3 : Int32) (v4 : Int32), lpN (st_X10_allServed t_deals t_borrower t_either t_lender p1 p2) n (.inl (v3, v4)) = some r → J X 0 0 (wd_X10_allServed G a_t a_t_borrower a_t_either a_t_lender t_persons t_deals t_lawYears t_toldParts a_t_personNames a_t_born a_t_dies a_t_limit a_t_dealNames a_t_year a_t_lenderGain a_t_borrowerGain a_t_byYear a_t_memo t_borrower t_either t_lender) [(0, .ref a_t), (1, .int p1), (2, .int p2), (3, .int v3), (4, .int v4)] 5 []) ∧ (∀ (v3 : Int32) (v4 : Int32), lpN (st_X10_allServed t_deals t_borrower t_either t_lender p1 p2) n (.inr ((v3, v4))) = some r → J X 0 0 (wd_X10_allServed G a_t a_t_borrower a_t_either a_t_lender t_persons t_deals t_lawYears t_toldParts a_t_personNames a_t_born a_t_dies a_t_limit a_t_dealNames a_t_year a_t_lenderGain a_t_borrowerGain a_t_byYear a_t_memo t_borrower t_either t_lender) [(0, .ref a_t), (1, .int p1), (2, .int p2), (3, .int v3), (4, .int v4)] 41 []) := by
  induction n with
  | zero => exact ⟨(fun v3 v4 h => by cases h), (fun v3 v4 h => by cases h)⟩
  | succ n ih => exact ⟨(fun v3 v4 h => lb_X10_allServed_0 l G a_t a_t_borrower a_t_either a_t_lender t_persons t_deals t_lawYears t_toldParts a_t_personNames a_t_born a_t_dies a_t_limit a_t_dealNames a_t_year a_t_lenderGain a_t_borrowerGain a_t_byYear a_t_memo t_borrower t_either t_lender p1 p2 X C r hE n (ih.2) v3 v4 (by rw [lpN_succ] at h; exact h)), (fun v3 v4 h => lb_X10_allServed_1 l G a_t a_t_borrower a_t_either a_t_lender t_persons t_deals t_lawYears t_toldParts a_t_personNames a_t_born a_t_dies a_t_limit a_t_dealNames a_t_year a_t_lenderGain a_t_borrowerGain a_t_byYear a_t_memo t_borrower t_either t_lender p1 p2 X C r hE n (ih.1) v3 v4 (by rw [lpN_succ] at h; exact h))⟩
set_option maxHeartbeats 8000000 in
set_option maxRecDepth 100000 in
theorem ct_X10_allServed (l : Launch) (G : jG) (a_t : Nat) (a_t_borrower : Nat) (a_t_either : Nat) (a_t_lender : Nat) (t_persons : Int32) (t_deals : Int32) (t_lawYears : Int32) (t_toldParts : Int32) (a_t_personNames : Nat) (a_t_born : Nat) (a_t_dies : Nat) (a_t_limit : Nat) (a_t_dealNames : Nat) (a_t_year : Nat) (a_t_lenderGain : Nat) (a_t_borrowerGain : Nat) (a_t_byYear : Nat) (a_t_memo : Nat) (t_borrower : Nat → Int32) (t_either : Nat → Int32) (t_lender : Nat → Int32) (p1 : Int32) (p2 : Int32) (r : Bool) (hd : dn_X10_allServed t_deals t_borrower t_either t_lender p1 p2 = some r) : jM l G yX10_allServed wsX10_allServed rm_X10_allServed [.ref a_t, .int p1, .int p2] (wd_X10_allServed G a_t a_t_borrower a_t_either a_t_lender t_persons t_deals t_lawYears t_toldParts a_t_personNames a_t_born a_t_dies a_t_limit a_t_dealNames a_t_year a_t_lenderGain a_t_borrowerGain a_t_byYear a_t_memo t_borrower t_either t_lender) (some (.int (b2i r))) (wd_X10_allServed G a_t a_t_borrower a_t_either a_t_lender t_persons t_deals t_lawYears t_toldParts a_t_personNames a_t_born a_t_dies a_t_limit a_t_dealNames a_t_year a_t_lenderGain a_t_borrowerGain a_t_byYear a_t_memo t_borrower t_either t_lender) := by
  refine jM_of (own := RX10) (by decide) rfl rfl rfl (Nat.le_of_ble_eq_true rfl) (lv0 := [(0, .ref a_t), (1, .int p1), (2, .int p2)]) rfl (fun X C hE => ?_)
  unfold dn_X10_allServed at hd
  refine j_iload_n (pc := 0) C dX10_allServed_0 rfl 1 rfl ?_
  refine j_istore_n (pc := 1) (lv2 := [(0, .ref a_t), (1, .int p1), (2, .int p2), (3, .int p1)]) C dX10_allServed_1 rfl (by decide) [1, 2, 3, 0] rfl ?_
  refine j_iconst (pc := 2) (v := 0) C dX10_allServed_2 jk_I0 ?_
  refine j_istore (pc := 3) (lv2 := [(0, .ref a_t), (1, .int p1), (2, .int p2), (3, .int p1), (4, .int 0)]) C dX10_allServed_3 (by decide) [1, 2, 3, 4, 0] rfl ?_
  refine j_sub (lv2 := [(0, .ref a_t), (1, .int p1), (2, .int p2), (3, .int p1), (4, .int 0)]) [0, 1, 2, 3, 4] rfl ?_
  obtain ⟨n, hn⟩ := lpC_ex hd
  exact (la_X10_allServed l G a_t a_t_borrower a_t_either a_t_lender t_persons t_deals t_lawYears t_toldParts a_t_personNames a_t_born a_t_dies a_t_limit a_t_dealNames a_t_year a_t_lenderGain a_t_borrowerGain a_t_byYear a_t_memo t_borrower t_either t_lender p1 p2 X C r hE n).1 p1 0 hn
