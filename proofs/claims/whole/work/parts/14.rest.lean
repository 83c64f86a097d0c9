/-! ##### LendTown$Choice.addUp(LLendTown$Town;II[I)V -/
abbrev rm_X1_addUp : Room := { frames := 1, cells := 0, slots := 0, locals := 24 }
theorem jy_X1_addUp : jY yX1_addUp wsX1_addUp rm_X1_addUp cX1_addUp 5 none 4 := ⟨⟨_, rfl⟩, ⟨rfl, rfl⟩, by decide, by decide, by decide +kernel⟩
theorem in_X1_addUp_X10 : ∀ w ∈ u_ws RX10 TX10 17, w ∈ wsX1_addUp := fun w h => List.mem_cons_of_mem _ (List.mem_append_right _ (h))
theorem fl_X1_addUp_52 : Cond.fieldLink RX1 52 "LendTown$Town" "deals" "I" ∈ wsX1_addUp := List.mem_of_getElem? (i := 1) rfl
theorem fl_X1_addUp_61 : Cond.fieldLink RX1 61 "LendTown$Town" "year" "[I" ∈ wsX1_addUp := List.mem_of_getElem? (i := 2) rfl
def wd_X1_addUp (G : jG) (a_p1 : Nat) (a_p1_borrower : Nat) (a_p1_borrowerGain : Nat) (a_p1_either : Nat) (a_p1_lender : Nat) (a_p1_lenderGain : Nat) (a_p1_year : Nat) (a_p4 : Nat) (p1_persons : Int32) (p1_deals : Int32) (p1_lawYears : Int32) (p1_toldParts : Int32) (a_p1_personNames : Nat) (a_p1_born : Nat) (a_p1_dies : Nat) (a_p1_limit : Nat) (a_p1_dealNames : Nat) (a_p1_byYear : Nat) (a_p1_memo : Nat) (p1_borrower : Nat → Int32) (p1_borrowerGain : Nat → Int32) (p1_either : Nat → Int32) (p1_lender : Nat → Int32) (p1_lenderGain : Nat → Int32) (p1_year : Nat → Int32) (p4 : Nat → Int32) : va_W := [(a_p1, .inr (10, [.int p1_persons, .int p1_deals, .int p1_lawYears, .int p1_toldParts, .ref a_p1_personNames, .ref a_p1_born, .ref a_p1_dies, .ref a_p1_limit, .ref a_p1_dealNames, .ref a_p1_lender, .ref a_p1_borrower, .ref a_p1_year, .ref a_p1_lenderGain, .ref a_p1_borrowerGain, .ref a_p1_either, .ref a_p1_byYear, .ref a_p1_memo])), (a_p1_borrower, .inl (G.2.2.1, 30, .inl p1_borrower)), (a_p1_borrowerGain, .inl (G.2.2.1, 30, .inl p1_borrowerGain)), (a_p1_either, .inl (G.2.2.1, 30, .inl p1_either)), (a_p1_lender, .inl (G.2.2.1, 30, .inl p1_lender)), (a_p1_lenderGain, .inl (G.2.2.1, 30, .inl p1_lenderGain)), (a_p1_year, .inl (G.2.2.1, 30, .inl p1_year)), (a_p4, .inl (G.2.2.1, 61, .inl p4))]
set_option maxHeartbeats 8000000 in
set_option maxRecDepth 100000 in
theorem lb_X1_addUp_0 (l : Launch) (G : jG) (a_p1 : Nat) (a_p1_borrower : Nat) (a_p1_borrowerGain : Nat) (a_p1_either : Nat) (a_p1_lender : Nat) (a_p1_lenderGain : Nat) (a_p1_year : Nat) (a_p4 : Nat) (p1_persons : Int32) (p1_deals : Int32) (p1_lawYears : Int32) (p1_toldParts : Int32) (a_p1_personNames : Nat) (a_p1_born : Nat) (a_p1_dies : Nat) (a_p1_limit : Nat) (a_p1_dealNames : Nat) (a_p1_byYear : Nat) (a_p1_memo : Nat) (p1_borrower : Nat → Int32) (p1_borrowerGain : Nat → Int32) (p1_either : Nat → Int32) (p1_lender : Nat → Int32) (p1_lenderGain : Nat → Int32) (p1_year : Nat → Int32) (p2 : Int32) (p3 : Int32) (X : jX) (C : jC X l G 5 rm_X1_addUp cX1_addUp RX1 wsX1_addUp) (r : (Nat → Int32)) (hE : jE X none none (wd_X1_addUp G a_p1 a_p1_borrower a_p1_borrowerGain a_p1_either a_p1_lender a_p1_lenderGain a_p1_year a_p4 p1_persons p1_deals p1_lawYears p1_toldParts a_p1_personNames a_p1_born a_p1_dies a_p1_limit a_p1_dealNames a_p1_byYear a_p1_memo p1_borrower p1_borrowerGain p1_either p1_lender p1_lenderGain p1_year r)) (n : Nat) (IH0 : ∀ (v4 : Int32) (p4 : Nat → Int32), lpN (st_X1_addUp p1_deals p1_borrower p1_borrowerGain p1_either p1_lender p1_lenderGain p1_year p2 p3) n (.inl (v4, p4)) = some r → J X 0 0 (wd_X1_addUp G a_p1 a_p1_borrower a_p1_borrowerGain a_p1_either a_p1_lender a_p1_lenderGain a_p1_year a_p4 p1_persons p1_deals p1_lawYears p1_toldParts a_p1_personNames a_p1_born a_p1_dies a_p1_limit a_p1_dealNames a_p1_byYear a_p1_memo p1_borrower p1_borrowerGain p1_either p1_lender p1_lenderGain p1_year p4) [(0, .ref a_p1), (1, .int p2), (2, .int p3), (3, .ref a_p4), (4, .int v4)] 8 []) (IH1 : ∀ (v4 : Int32) (p4 : Nat → Int32), lpN (st_X1_addUp p1_deals p1_borrower p1_borrowerGain p1_either p1_lender p1_lenderGain p1_year p2 p3) n (.inr ((v4, p4))) = some r → J X 0 0 (wd_X1_addUp G a_p1 a_p1_borrower a_p1_borrowerGain a_p1_either a_p1_lender a_p1_lenderGain a_p1_year a_p4 p1_persons p1_deals p1_lawYears p1_toldParts a_p1_personNames a_p1_born a_p1_dies a_p1_limit a_p1_dealNames a_p1_byYear a_p1_memo p1_borrower p1_borrowerGain p1_either p1_lender p1_lenderGain p1_year p4) [(3, .ref a_p4), (4, .int v4)] 57 []) (v4 : Int32) (p4 : Nat → Int32) (hd : lpR (st_X1_addUp p1_deals p1_borrower p1_borrowerGain p1_either p1_lender p1_lenderGain p1_year p2 p3) n (bd_X1_addUp_0 p1_deals p1_borrower p1_borrowerGain p1_either p1_lender p1_lenderGain p1_year p2 p3 v4 p4) = some r) : J X 0 0 (wd_X1_addUp G a_p1 a_p1_borrower a_p1_borrowerGain a_p1_either a_p1_lender a_p1_lenderGain a_p1_year a_p4 p1_persons p1_deals p1_lawYears p1_toldParts a_p1_personNames a_p1_born a_p1_dies a_p1_limit a_p1_dealNames a_p1_byYear a_p1_memo p1_borrower p1_borrowerGain p1_either p1_lender p1_lenderGain p1_year p4) [(0, .ref a_p1), (1, .int p2), (2, .int p3), (3, .ref a_p4), (4, .int v4)] 8 [] := by
  unfold bd_X1_addUp_0 at hd
  refine j_iload (pc := 8) C dX1_addUp_8 4 rfl ?_
  refine j_aload_n (pc := 10) C dX1_addUp_10 rfl 0 rfl ?_
  refine j_get (pc := 11) (q0 := 0) (ci := 10) (kf := 1) C dX1_addUp_11 in_X1_addUp_X10 rfl (by decide) fl_X1_addUp_52 rfl rfl ?_
  refine j_icmp_ge (pc := 14) (tgt := 54) C dX1_addUp_14 (by decide) (fun c2 => ?_) (fun c2 => ?_)
  · have hd := lp_pos c2 hd
    refine j_iconst (pc := 54) (v := 0) C dX1_addUp_54 jk_I0 ?_
    refine j_istore (pc := 55) (lv2 := [(3, .ref a_p4), (4, .int 0)]) C dX1_addUp_55 (by decide) [4, 0] rfl ?_
    refine j_sub (lv2 := [(3, .ref a_p4), (4, .int 0)]) [0, 1] rfl ?_
    exact IH1 0 p4 hd
  · have hd := lp_neg c2 hd
    refine j_aload_n (pc := 17) C dX1_addUp_17 rfl 0 rfl ?_
    refine j_iload (pc := 18) C dX1_addUp_18 4 rfl ?_
    refine j_iload_n (pc := 20) C dX1_addUp_20 rfl 2 rfl ?_
    obtain ⟨q3, eq3, hd⟩ := lp_bind hd
    refine j_callV (pc := 21) (q0 := 0) (ci := 10) (As := [.int v4, .int p3]) (rest := []) (st2 := [.int (b2i q3)]) (ws2 := wd_X1_addUp G a_p1 a_p1_borrower a_p1_borrowerGain a_p1_either a_p1_lender a_p1_lenderGain a_p1_year a_p4 p1_persons p1_deals p1_lawYears p1_toldParts a_p1_personNames a_p1_born a_p1_dies a_p1_limit a_p1_dealNames a_p1_byYear a_p1_memo p1_borrower p1_borrowerGain p1_either p1_lender p1_lenderGain p1_year p4) C (ct_X10_goesBy l G a_p1 a_p1_borrower a_p1_either a_p1_lender p1_persons p1_deals p1_lawYears p1_toldParts a_p1_personNames a_p1_born a_p1_dies a_p1_limit a_p1_dealNames a_p1_year a_p1_lenderGain a_p1_borrowerGain a_p1_byYear a_p1_memo p1_borrower p1_either p1_lender v4 p3 q3 eq3) jy_X10_goesBy dX1_addUp_21 gX1_addUp_X10_goesBy rfl rfl (by decide) ⟨Nat.zero_le _, Nat.zero_le _⟩ [0, 1, 3, 4] rfl rfl (jpt_eq rfl rfl rfl) rfl rfl rfl (Nat.le_of_ble_eq_true rfl) rfl ?_
    refine j_ifb_eq (pc := 24) (tgt := 48) C dX1_addUp_24 (by decide) (fun c4 => ?_) (fun c4 => ?_)
    · have hd := lp_neg c4 hd
      refine j_iinc (pc := 48) (lv2 := [(0, .ref a_p1), (1, .int p2), (2, .int p3), (3, .ref a_p4), (4, .int (v4 + 1))]) C dX1_addUp_48 jk_I1 (by decide) 4 rfl [1, 2, 3, 4, 0] rfl ?_
      refine j_goto (pc := 51) (tgt := 8) C dX1_addUp_51 (by decide) ?_
      refine j_sub (lv2 := [(0, .ref a_p1), (1, .int p2), (2, .int p3), (3, .ref a_p4), (4, .int (v4 + 1))]) [0, 1, 2, 3, 4] rfl ?_
      exact IH0 (v4 + 1) p4 hd
    · have hd := lp_pos c4 hd
      refine j_aload_n (pc := 27) C dX1_addUp_27 rfl 3 rfl ?_
      refine j_aload_n (pc := 28) C dX1_addUp_28 rfl 0 rfl ?_
      refine j_get (pc := 29) (q0 := 0) (ci := 10) (kf := 11) C dX1_addUp_29 in_X1_addUp_X10 rfl (by decide) fl_X1_addUp_61 rfl rfl ?_
      refine j_iload (pc := 32) C dX1_addUp_32 4 rfl ?_
      obtain ⟨h5, hd⟩ := lp_chk hd
      refine j_iald (pc := 34) (q0 := 6) C dX1_addUp_34 rfl h5 ?_
      refine j_iconst (pc := 35) (v := 1) C dX1_addUp_35 jk_I1 ?_
      refine j_iadd (pc := 36) C dX1_addUp_36 ?_
      refine j_dup2 (pc := 37) C dX1_addUp_37 rfl rfl ?_
      obtain ⟨h6, hd⟩ := lp_chk hd
      refine j_iald (pc := 38) (q0 := 7) C dX1_addUp_38 rfl h6 ?_
      refine j_aload_n (pc := 39) C dX1_addUp_39 rfl 0 rfl ?_
      refine j_iload (pc := 40) C dX1_addUp_40 4 rfl ?_
      refine j_iload_n (pc := 42) C dX1_addUp_42 rfl 1 rfl ?_
      obtain ⟨q7, eq7, hd⟩ := lp_bind hd
      refine j_callV (pc := 43) (q0 := 0) (ci := 10) (As := [.int v4, .int p2]) (rest := [.int (p4 (((p1_year (v4).toNatClampNeg) + 1)).toNatClampNeg), .int ((p1_year (v4).toNatClampNeg) + 1), .ref a_p4]) (st2 := [.int q7, .int (p4 (((p1_year (v4).toNatClampNeg) + 1)).toNatClampNeg), .int ((p1_year (v4).toNatClampNeg) + 1), .ref a_p4]) (ws2 := wd_X1_addUp G a_p1 a_p1_borrower a_p1_borrowerGain a_p1_either a_p1_lender a_p1_lenderGain a_p1_year a_p4 p1_persons p1_deals p1_lawYears p1_toldParts a_p1_personNames a_p1_born a_p1_dies a_p1_limit a_p1_dealNames a_p1_byYear a_p1_memo p1_borrower p1_borrowerGain p1_either p1_lender p1_lenderGain p1_year p4) C (ct_X10_shareOf l G a_p1 a_p1_borrower a_p1_borrowerGain a_p1_lender a_p1_lenderGain p1_persons p1_deals p1_lawYears p1_toldParts a_p1_personNames a_p1_born a_p1_dies a_p1_limit a_p1_dealNames a_p1_year a_p1_either a_p1_byYear a_p1_memo p1_borrower p1_borrowerGain p1_lender p1_lenderGain v4 p2 q7 eq7) jy_X10_shareOf dX1_addUp_43 gX1_addUp_X10_shareOf rfl rfl (by decide) ⟨Nat.zero_le _, Nat.zero_le _⟩ [0, 1, 2, 4, 5] rfl rfl (jpt_eq rfl rfl rfl) rfl rfl rfl (Nat.le_of_ble_eq_true rfl) rfl ?_
      refine j_iadd (pc := 46) C dX1_addUp_46 ?_
      obtain ⟨h8, hd⟩ := lp_chk hd
      refine j_iast (pc := 47) (q0 := 7) (ws2 := wd_X1_addUp G a_p1 a_p1_borrower a_p1_borrowerGain a_p1_either a_p1_lender a_p1_lenderGain a_p1_year a_p4 p1_persons p1_deals p1_lawYears p1_toldParts a_p1_personNames a_p1_born a_p1_dies a_p1_limit a_p1_dealNames a_p1_byYear a_p1_memo p1_borrower p1_borrowerGain p1_either p1_lender p1_lenderGain p1_year (upd p4 ((p1_year (v4).toNatClampNeg) + 1).toNatClampNeg ((p4 (((p1_year (v4).toNatClampNeg) + 1)).toNatClampNeg) + q7))) C dX1_addUp_47 rfl h8 rfl ?_
      refine j_iinc (pc := 48) (lv2 := [(0, .ref a_p1), (1, .int p2), (2, .int p3), (3, .ref a_p4), (4, .int (v4 + 1))]) C dX1_addUp_48 jk_I1 (by decide) 4 rfl [1, 2, 3, 4, 0] rfl ?_
      refine j_goto (pc := 51) (tgt := 8) C dX1_addUp_51 (by decide) ?_
      refine j_sub (lv2 := [(0, .ref a_p1), (1, .int p2), (2, .int p3), (3, .ref a_p4), (4, .int (v4 + 1))]) [0, 1, 2, 3, 4] rfl ?_
      exact IH0 (v4 + 1) (upd p4 ((p1_year (v4).toNatClampNeg) + 1).toNatClampNeg ((p4 (((p1_year (v4).toNatClampNeg) + 1)).toNatClampNeg) + q7)) hd
set_option maxHeartbeats 8000000 in
set_option maxRecDepth 100000 in
theorem lb_X1_addUp_1 (l : Launch) (G : jG) (a_p1 : Nat) (a_p1_borrower : Nat) (a_p1_borrowerGain : Nat) (a_p1_either : Nat) (a_p1_lender : Nat) (a_p1_lenderGain : Nat) (a_p1_year : Nat) (a_p4 : Nat) (p1_persons : Int32) (p1_deals : Int32) (p1_lawYears : Int32) (p1_toldParts : Int32) (a_p1_personNames : Nat) (a_p1_born : Nat) (a_p1_dies : Nat) (a_p1_limit : Nat) (a_p1_dealNames : Nat) (a_p1_byYear : Nat) (a_p1_memo : Nat) (p1_borrower : Nat → Int32) (p1_borrowerGain : Nat → Int32) (p1_either : Nat → Int32) (p1_lender : Nat → Int32) (p1_lenderGain : Nat → Int32) (p1_year : Nat → Int32) (p2 : Int32) (p3 : Int32) (X : jX) (C : jC X l G 5 rm_X1_addUp cX1_addUp RX1 wsX1_addUp) (r : (Nat → Int32)) (hE : jE X none none (wd_X1_addUp G a_p1 a_p1_borrower a_p1_borrowerGain a_p1_either a_p1_lender a_p1_lenderGain a_p1_year a_p4 p1_persons p1_deals p1_lawYears p1_toldParts a_p1_personNames a_p1_born a_p1_dies a_p1_limit a_p1_dealNames a_p1_byYear a_p1_memo p1_borrower p1_borrowerGain p1_either p1_lender p1_lenderGain p1_year r)) (n : Nat) (IH1 : ∀ (v4 : Int32) (p4 : Nat → Int32), lpN (st_X1_addUp p1_deals p1_borrower p1_borrowerGain p1_either p1_lender p1_lenderGain p1_year p2 p3) n (.inr ((v4, p4))) = some r → J X 0 0 (wd_X1_addUp G a_p1 a_p1_borrower a_p1_borrowerGain a_p1_either a_p1_lender a_p1_lenderGain a_p1_year a_p4 p1_persons p1_deals p1_lawYears p1_toldParts a_p1_personNames a_p1_born a_p1_dies a_p1_limit a_p1_dealNames a_p1_byYear a_p1_memo p1_borrower p1_borrowerGain p1_either p1_lender p1_lenderGain p1_year p4) [(3, .ref a_p4), (4, .int v4)] 57 []) (v4 : Int32) (p4 : Nat → Int32) (hd : lpR (st_X1_addUp p1_deals p1_borrower p1_borrowerGain p1_either p1_lender p1_lenderGain p1_year p2 p3) n (bd_X1_addUp_1 p1_deals p1_borrower p1_borrowerGain p1_either p1_lender p1_lenderGain p1_year p2 p3 v4 p4) = some r) : J X 0 0 (wd_X1_addUp G a_p1 a_p1_borrower a_p1_borrowerGain a_p1_either a_p1_lender a_p1_lenderGain a_p1_year a_p4 p1_persons p1_deals p1_lawYears p1_toldParts a_p1_personNames a_p1_born a_p1_dies a_p1_limit a_p1_dealNames a_p1_byYear a_p1_memo p1_borrower p1_borrowerGain p1_either p1_lender p1_lenderGain p1_year p4) [(3, .ref a_p4), (4, .int v4)] 57 [] := by
  unfold bd_X1_addUp_1 at hd
  refine j_iload (pc := 57) C dX1_addUp_57 1 rfl ?_
  refine j_bipush (pc := 59) (v := 60) C dX1_addUp_59 jk_B60 ?_
  refine j_icmp_ge (pc := 61) (tgt := 83) C dX1_addUp_61 (by decide) (fun c9 => ?_) (fun c9 => ?_)
  · have hd := lp_pos c9 hd
    obtain rfl := Option.some.inj hd
    exact j_vret (pc := 83) C hE dX1_addUp_83 rfl rfl
  · have hd := lp_neg c9 hd
    refine j_aload_n (pc := 64) C dX1_addUp_64 rfl 0 rfl ?_
    refine j_iload (pc := 65) C dX1_addUp_65 1 rfl ?_
    refine j_iconst (pc := 67) (v := 1) C dX1_addUp_67 jk_I1 ?_
    refine j_iadd (pc := 68) C dX1_addUp_68 ?_
    refine j_dup2 (pc := 69) C dX1_addUp_69 rfl rfl ?_
    obtain ⟨h10, hd⟩ := lp_chk hd
    refine j_iald (pc := 70) (q0 := 7) C dX1_addUp_70 rfl h10 ?_
    refine j_aload_n (pc := 71) C dX1_addUp_71 rfl 0 rfl ?_
    refine j_iload (pc := 72) C dX1_addUp_72 1 rfl ?_
    obtain ⟨h11, hd⟩ := lp_chk hd
    refine j_iald (pc := 74) (q0 := 7) C dX1_addUp_74 rfl h11 ?_
    refine j_iadd (pc := 75) C dX1_addUp_75 ?_
    obtain ⟨h12, hd⟩ := lp_chk hd
    refine j_iast (pc := 76) (q0 := 7) (ws2 := wd_X1_addUp G a_p1 a_p1_borrower a_p1_borrowerGain a_p1_either a_p1_lender a_p1_lenderGain a_p1_year a_p4 p1_persons p1_deals p1_lawYears p1_toldParts a_p1_personNames a_p1_born a_p1_dies a_p1_limit a_p1_dealNames a_p1_byYear a_p1_memo p1_borrower p1_borrowerGain p1_either p1_lender p1_lenderGain p1_year (upd p4 (v4 + 1).toNatClampNeg ((p4 ((v4 + 1)).toNatClampNeg) + (p4 (v4).toNatClampNeg)))) C dX1_addUp_76 rfl h12 rfl ?_
    refine j_iinc (pc := 77) (lv2 := [(3, .ref a_p4), (4, .int (v4 + 1))]) C dX1_addUp_77 jk_I1 (by decide) 1 rfl [1, 0] rfl ?_
    refine j_goto (pc := 80) (tgt := 57) C dX1_addUp_80 (by decide) ?_
    refine j_sub (lv2 := [(3, .ref a_p4), (4, .int (v4 + 1))]) [0, 1] rfl ?_
    exact IH1 (v4 + 1) (upd p4 (v4 + 1).toNatClampNeg ((p4 ((v4 + 1)).toNatClampNeg) + (p4 (v4).toNatClampNeg))) hd
set_option maxHeartbeats 8000000 in
set_option maxRecDepth 100000 in
theorem la_X1_addUp (l : Launch) (G : jG) (a_p1 : Nat) (a_p1_borrower : Nat) (a_p1_borrowerGain : Nat) (a_p1_either : Nat) (a_p1_lender : Nat) (a_p1_lenderGain : Nat) (a_p1_year : Nat) (a_p4 : Nat) (p1_persons : Int32) (p1_deals : Int32) (p1_lawYears : Int32) (p1_toldParts : Int32) (a_p1_personNames : Nat) (a_p1_born : Nat) (a_p1_dies : Nat) (a_p1_limit : Nat) (a_p1_dealNames : Nat) (a_p1_byYear : Nat) (a_p1_memo : Nat) (p1_borrower : Nat → Int32) (p1_borrowerGain : Nat → Int32) (p1_either : Nat → Int32) (p1_lender : Nat → Int32) (p1_lenderGain : Nat → Int32) (p1_year : Nat → Int32) (p2 : Int32) (p3 : Int32) (X : jX) (C : jC X l G 5 rm_X1_addUp cX1_addUp RX1 wsX1_addUp) (r : (Nat → Int32)) (hE : jE X none none (wd_X1_addUp G a_p1 a_p1_borrower a_p1_borrowerGain a_p1_either a_p1_lender a_p1_lenderGain a_p1_year a_p4 p1_persons p1_deals p1_lawYears p1_toldParts a_p1_personNames a_p1_born a_p1_dies a_p1_limit a_p1_dealNames a_p1_byYear a_p1_memo p1_borrower p1_borrowerGain p1_either p1_lender p1_lenderGain p1_year r)) (n : Nat) : (∀ (v4 : Int32) (p4 : Nat → Int32), lpN (st_X1_addUp p1_deals p1_borrower p1_borrowerGain p1_either p1_lender p1_lenderGain p1_year p2 p3) n (.inl (v4, p4)) = some r → J X 0 0 (wd_X1_addUp G a_p1 a_p1_borrower a_p1_borrowerGain a_p1_either a_p1_lender a_p1_lenderGain a_p1_year a_p4 p1_persons p1_deals p1_lawYears p1_toldParts a_p1_personNames a_p1_born a_p1_dies a_p1_limit a_p1_dealNames a_p1_byYear a_p1_memo p1_borrower p1_borrowerGain p1_either p1_lender p1_lenderGain p1_year p4) [(0, .ref a_p1), (1, .int p2), (2, .int p3), (3, .ref a_p4), (4, .int v4)] 8 []) ∧ (∀ (v4 : Int32) (p4 : Nat → Int32), lpN (st_X1_addUp p1_deals p1_borrower p1_borrowerGain p1_either p1_lender p1_lenderGain p1_year p2 p3) n (.inr ((v4, p4))) = some r → J X 0 0 (wd_X1_addUp G a_p1 a_p1_borrower a_p1_borrowerGain a_p1_either a_p1_lender a_p1_lenderGain a_p1_year a_p4 p1_persons p1_deals p1_lawYears p1_toldParts a_p1_personNames a_p1_born a_p1_dies a_p1_limit a_p1_dealNames a_p1_byYear a_p1_memo p1_borrower p1_borrowerGain p1_either p1_lender p1_lenderGain p1_year p4) [(3, .ref a_p4), (4, .int v4)] 57 []) := by
  induction n with
  | zero => exact ⟨(fun v4 p4 h => by cases h), (fun v4 p4 h => by cases h)⟩
  | succ n ih => exact ⟨(fun v4 p4 h => lb_X1_addUp_0 l G a_p1 a_p1_borrower a_p1_borrowerGain a_p1_either a_p1_lender a_p1_lenderGain a_p1_year a_p4 p1_persons p1_deals p1_lawYears p1_toldParts a_p1_personNames a_p1_born a_p1_dies a_p1_limit a_p1_dealNames a_p1_byYear a_p1_memo p1_borrower p1_borrowerGain p1_either p1_lender p1_lenderGain p1_year p2 p3 X C r hE n (ih.1) (ih.2) v4 p4 (by rw [lpN_succ] at h; exact h)), (fun v4 p4 h => lb_X1_addUp_1 l G a_p1 a_p1_borrower a_p1_borrowerGain a_p1_either a_p1_lender a_p1_lenderGain a_p1_year a_p4 p1_persons p1_deals p1_lawYears p1_toldParts a_p1_personNames a_p1_born a_p1_dies a_p1_limit a_p1_dealNames a_p1_byYear a_p1_memo p1_borrower p1_borrowerGain p1_either p1_lender p1_lenderGain p1_year p2 p3 X C r hE n (ih.2) v4 p4 (by rw [lpN_succ] at h; exact h))⟩
set_option maxHeartbeats 8000000 in
set_option maxRecDepth 100000 in
theorem ct_X1_addUp (l : Launch) (G : jG) (a_p1 : Nat) (a_p1_borrower : Nat) (a_p1_borrowerGain : Nat) (a_p1_either : Nat) (a_p1_lender : Nat) (a_p1_lenderGain : Nat) (a_p1_year : Nat) (a_p4 : Nat) (p1_persons : Int32) (p1_deals : Int32) (p1_lawYears : Int32) (p1_toldParts : Int32) (a_p1_personNames : Nat) (a_p1_born : Nat) (a_p1_dies : Nat) (a_p1_limit : Nat) (a_p1_dealNames : Nat) (a_p1_byYear : Nat) (a_p1_memo : Nat) (p1_borrower : Nat → Int32) (p1_borrowerGain : Nat → Int32) (p1_either : Nat → Int32) (p1_lender : Nat → Int32) (p1_lenderGain : Nat → Int32) (p1_year : Nat → Int32) (p4 : Nat → Int32) (p2 : Int32) (p3 : Int32) (r : (Nat → Int32)) (hd : dn_X1_addUp p1_deals p1_borrower p1_borrowerGain p1_either p1_lender p1_lenderGain p1_year p4 p2 p3 = some r) : jM l G yX1_addUp wsX1_addUp rm_X1_addUp [.ref a_p1, .int p2, .int p3, .ref a_p4] (wd_X1_addUp G a_p1 a_p1_borrower a_p1_borrowerGain a_p1_either a_p1_lender a_p1_lenderGain a_p1_year a_p4 p1_persons p1_deals p1_lawYears p1_toldParts a_p1_personNames a_p1_born a_p1_dies a_p1_limit a_p1_dealNames a_p1_byYear a_p1_memo p1_borrower p1_borrowerGain p1_either p1_lender p1_lenderGain p1_year p4) none (wd_X1_addUp G a_p1 a_p1_borrower a_p1_borrowerGain a_p1_either a_p1_lender a_p1_lenderGain a_p1_year a_p4 p1_persons p1_deals p1_lawYears p1_toldParts a_p1_personNames a_p1_born a_p1_dies a_p1_limit a_p1_dealNames a_p1_byYear a_p1_memo p1_borrower p1_borrowerGain p1_either p1_lender p1_lenderGain p1_year r) := by
  refine jM_of (own := RX1) (by decide) rfl rfl rfl (Nat.le_of_ble_eq_true rfl) (lv0 := [(0, .ref a_p1), (1, .int p2), (2, .int p3), (3, .ref a_p4)]) rfl (fun X C hE => ?_)
  unfold dn_X1_addUp at hd
  refine j_aload_n (pc := 0) C dX1_addUp_0 rfl 3 rfl ?_
  refine j_iconst (pc := 1) (v := 0) C dX1_addUp_1 jk_I0 ?_
  refine j_callS (pc := 2) (As := [.ref a_p4, .int 0]) (rest := []) (st2 := []) (ws2 := wd_X1_addUp G a_p1 a_p1_borrower a_p1_borrowerGain a_p1_either a_p1_lender a_p1_lenderGain a_p1_year a_p4 p1_persons p1_deals p1_lawYears p1_toldParts a_p1_personNames a_p1_born a_p1_dies a_p1_limit a_p1_dealNames a_p1_byYear a_p1_memo p1_borrower p1_borrowerGain p1_either p1_lender p1_lenderGain p1_year (jfill 61 p4 0)) C (ct_fill l G 61 a_p4 p4 0 (by decide)) jy_J7_fill_53178 dX1_addUp_2 gX1_addUp_J7_fill_53178 rfl (by decide) ⟨Nat.zero_le _, Nat.zero_le _⟩ [7] rfl rfl (jpt_eq rfl rfl rfl) rfl (Nat.le_of_ble_eq_true rfl) rfl ?_
  refine j_iconst (pc := 5) (v := 0) C dX1_addUp_5 jk_I0 ?_
  refine j_istore (pc := 6) (lv2 := [(0, .ref a_p1), (1, .int p2), (2, .int p3), (3, .ref a_p4), (4, .int 0)]) C dX1_addUp_6 (by decide) [1, 2, 3, 4, 0] rfl ?_
  refine j_sub (lv2 := [(0, .ref a_p1), (1, .int p2), (2, .int p3), (3, .ref a_p4), (4, .int 0)]) [0, 1, 2, 3, 4] rfl ?_
  obtain ⟨n, hn⟩ := lpC_ex hd
  exact (la_X1_addUp l G a_p1 a_p1_borrower a_p1_borrowerGain a_p1_either a_p1_lender a_p1_lenderGain a_p1_year a_p4 p1_persons p1_deals p1_lawYears p1_toldParts a_p1_personNames a_p1_born a_p1_dies a_p1_limit a_p1_dealNames a_p1_byYear a_p1_memo p1_borrower p1_borrowerGain p1_either p1_lender p1_lenderGain p1_year p2 p3 X C r hE n).1 0 (jfill 61 p4 0) hn
/-! ##### LendTown$Choice.freeAgain(I)I -/
abbrev rm_X1_freeAgain : Room := { frames := 1, cells := 0, slots := 0, locals := 21 }
theorem jy_X1_freeAgain : jY yX1_freeAgain wsX1_freeAgain rm_X1_freeAgain cX1_freeAgain 2 (some .int) 1 := ⟨⟨_, rfl⟩, ⟨rfl, rfl⟩, by decide, by decide, by decide +kernel⟩
theorem in_X1_freeAgain_X1 : ∀ w ∈ u_ws RX1 TX1 6, w ∈ wsX1_freeAgain := fun w h => List.mem_cons_of_mem _ (List.mem_append_right _ (h))
theorem fl_X1_freeAgain_28 : Cond.fieldLink RX1 28 "LendTown$Choice" "boundYears" "I" ∈ wsX1_freeAgain := List.mem_of_getElem? (i := 1) rfl
def wd_X1_freeAgain (G : jG) (a_t : Nat) (a_t_most : Nat) (a_t_row : Nat) (t_kept : Int32) (a_t_lending : Nat) (a_t_borrowing : Nat) (t_boundYears : Int32) : va_W := [(a_t, .inr (1, [.ref a_t_most, .ref a_t_row, .int t_kept, .ref a_t_lending, .ref a_t_borrowing, .int t_boundYears]))]
set_option maxHeartbeats 8000000 in
set_option maxRecDepth 100000 in
theorem ct_X1_freeAgain (l : Launch) (G : jG) (a_t : Nat) (a_t_most : Nat) (a_t_row : Nat) (t_kept : Int32) (a_t_lending : Nat) (a_t_borrowing : Nat) (t_boundYears : Int32) (p1 : Int32) (r : Int32) (hd : dn_X1_freeAgain t_boundYears p1 = some r) : jM l G yX1_freeAgain wsX1_freeAgain rm_X1_freeAgain [.ref a_t, .int p1] (wd_X1_freeAgain G a_t a_t_most a_t_row t_kept a_t_lending a_t_borrowing t_boundYears) (some (.int r)) (wd_X1_freeAgain G a_t a_t_most a_t_row t_kept a_t_lending a_t_borrowing t_boundYears) := by
  refine jM_of (own := RX1) (by decide) rfl rfl rfl (Nat.le_of_ble_eq_true rfl) (lv0 := [(0, .ref a_t), (1, .int p1)]) rfl (fun X C hE => ?_)
  unfold dn_X1_freeAgain at hd
  refine j_bipush (pc := 0) (v := 60) C dX1_freeAgain_0 jk_B60 ?_
  refine j_iload_n (pc := 2) C dX1_freeAgain_2 rfl 1 rfl ?_
  refine j_aload_n (pc := 3) C dX1_freeAgain_3 rfl 0 rfl ?_
  refine j_get (pc := 4) (q0 := 0) (ci := 1) (kf := 5) C dX1_freeAgain_4 in_X1_freeAgain_X1 rfl (by decide) fl_X1_freeAgain_28 rfl rfl ?_
  refine j_iadd (pc := 7) C dX1_freeAgain_7 ?_
  refine j_mmin (pc := 8) C dX1_freeAgain_8 (List.mem_of_getElem? (i := 2) rfl) (List.mem_of_getElem? (i := 3) rfl) (List.mem_of_getElem? (i := 4) rfl) (List.mem_of_getElem? (i := 5) rfl) (by decide) (Nat.le_of_ble_eq_true rfl) (by decide) (by decide) ?_
  obtain rfl := Option.some.inj hd
  exact j_iret (pc := 11) C hE dX1_freeAgain_11 rfl rfl
/-! ##### LendTown$Choice.byBinding([II)I -/
abbrev rm_X1_byBinding : Room := { frames := 2, cells := 0, slots := 0, locals := 42 }
theorem jy_X1_byBinding : jY yX1_byBinding wsX1_byBinding rm_X1_byBinding cX1_byBinding 4 (some .int) 2 := ⟨⟨_, rfl⟩, ⟨rfl, rfl⟩, by decide, by decide, by decide +kernel⟩
theorem in_X1_byBinding_X1 : ∀ w ∈ u_ws RX1 TX1 6, w ∈ wsX1_byBinding := fun w h => List.mem_cons_of_mem _ (List.mem_append_right _ (h))
theorem fl_X1_byBinding_9 : Cond.fieldLink RX1 9 "LendTown$Choice" "most" "[I" ∈ wsX1_byBinding := List.mem_of_getElem? (i := 1) rfl
def wd_X1_byBinding (G : jG) (a_t : Nat) (a_t_most : Nat) (a_p1 : Nat) (a_t_row : Nat) (t_kept : Int32) (a_t_lending : Nat) (a_t_borrowing : Nat) (t_boundYears : Int32) (t_most : Nat → Int32) (p1 : Nat → Int32) : va_W := [(a_t, .inr (1, [.ref a_t_most, .ref a_t_row, .int t_kept, .ref a_t_lending, .ref a_t_borrowing, .int t_boundYears])), (a_t_most, .inl (G.2.2.1, 61, .inl t_most)), (a_p1, .inl (G.2.2.1, 61, .inl p1))]
set_option maxHeartbeats 8000000 in
set_option maxRecDepth 100000 in
theorem ct_X1_byBinding (l : Launch) (G : jG) (a_t : Nat) (a_t_most : Nat) (a_p1 : Nat) (a_t_row : Nat) (t_kept : Int32) (a_t_lending : Nat) (a_t_borrowing : Nat) (t_boundYears : Int32) (t_most : Nat → Int32) (p1 : Nat → Int32) (p2 : Int32) (r : Int32) (hd : dn_X1_byBinding t_boundYears t_most p1 p2 = some r) : jM l G yX1_byBinding wsX1_byBinding rm_X1_byBinding [.ref a_t, .ref a_p1, .int p2] (wd_X1_byBinding G a_t a_t_most a_p1 a_t_row t_kept a_t_lending a_t_borrowing t_boundYears t_most p1) (some (.int r)) (wd_X1_byBinding G a_t a_t_most a_p1 a_t_row t_kept a_t_lending a_t_borrowing t_boundYears t_most p1) := by
  refine jM_of (own := RX1) (by decide) rfl rfl rfl (Nat.le_of_ble_eq_true rfl) (lv0 := [(0, .ref a_t), (1, .ref a_p1), (2, .int p2)]) rfl (fun X C hE => ?_)
  unfold dn_X1_byBinding at hd
  refine j_aload_n (pc := 0) C dX1_byBinding_0 rfl 0 rfl ?_
  refine j_iload_n (pc := 1) C dX1_byBinding_1 rfl 2 rfl ?_
  obtain ⟨q1, eq1, hd⟩ := ob_bind hd
  refine j_callV (pc := 2) (q0 := 0) (ci := 1) (As := [.int p2]) (rest := []) (st2 := [.int q1]) (ws2 := wd_X1_byBinding G a_t a_t_most a_p1 a_t_row t_kept a_t_lending a_t_borrowing t_boundYears t_most p1) C (ct_X1_freeAgain l G a_t a_t_most a_t_row t_kept a_t_lending a_t_borrowing t_boundYears p2 q1 eq1) jy_X1_freeAgain dX1_byBinding_2 gX1_byBinding_X1_freeAgain rfl rfl (by decide) ⟨Nat.zero_le _, Nat.zero_le _⟩ [0] rfl rfl (jpt_eq rfl rfl rfl) rfl rfl rfl (Nat.le_of_ble_eq_true rfl) rfl ?_
  refine j_istore_n (pc := 5) (lv2 := [(0, .ref a_t), (1, .ref a_p1), (2, .int p2), (3, .int q1)]) C dX1_byBinding_5 rfl (by decide) [1, 2, 3, 0] rfl ?_
  refine j_aload_n (pc := 6) C dX1_byBinding_6 rfl 1 rfl ?_
  refine j_iload_n (pc := 7) C dX1_byBinding_7 rfl 3 rfl ?_
  obtain ⟨h2, hd⟩ := ob_chk hd
  refine j_iald (pc := 8) (q0 := 2) C dX1_byBinding_8 rfl h2 ?_
  refine j_aload_n (pc := 9) C dX1_byBinding_9 rfl 1 rfl ?_
  refine j_iload_n (pc := 10) C dX1_byBinding_10 rfl 2 rfl ?_
  obtain ⟨h3, hd⟩ := ob_chk hd
  refine j_iald (pc := 11) (q0 := 2) C dX1_byBinding_11 rfl h3 ?_
  refine j_isub (pc := 12) C dX1_byBinding_12 ?_
  refine j_aload_n (pc := 13) C dX1_byBinding_13 rfl 0 rfl ?_
  refine j_get (pc := 14) (q0 := 0) (ci := 1) (kf := 0) C dX1_byBinding_14 in_X1_byBinding_X1 rfl (by decide) fl_X1_byBinding_9 rfl rfl ?_
  refine j_iload_n (pc := 17) C dX1_byBinding_17 rfl 3 rfl ?_
  obtain ⟨h4, hd⟩ := ob_chk hd
  refine j_iald (pc := 18) (q0 := 1) C dX1_byBinding_18 rfl h4 ?_
  refine j_iadd (pc := 19) C dX1_byBinding_19 ?_
  obtain rfl := Option.some.inj hd
  exact j_iret (pc := 20) C hE dX1_byBinding_20 rfl rfl
/-! ##### LendTown$Choice.reckon(LLendTown$Town;III)V -/
abbrev rm_X1_reckon : Room := { frames := 3, cells := 0, slots := 0, locals := 65 }
theorem jy_X1_reckon : jY yX1_reckon wsX1_reckon rm_X1_reckon cX1_reckon 6 none 4 := ⟨⟨_, rfl⟩, ⟨rfl, rfl⟩, by decide, by decide, by decide +kernel⟩
theorem in_X1_reckon_X1 : ∀ w ∈ u_ws RX1 TX1 6, w ∈ wsX1_reckon := fun w h => List.mem_cons_of_mem _ (List.mem_append_left _ (List.mem_append_right _ (h)))
theorem fl_X1_reckon_28 : Cond.fieldLink RX1 28 "LendTown$Choice" "boundYears" "I" ∈ wsX1_reckon := List.mem_of_getElem? (i := 1) rfl
theorem fl_X1_reckon_22 : Cond.fieldLink RX1 22 "LendTown$Choice" "lending" "[I" ∈ wsX1_reckon := List.mem_of_getElem? (i := 2) rfl
theorem fl_X1_reckon_25 : Cond.fieldLink RX1 25 "LendTown$Choice" "borrowing" "[I" ∈ wsX1_reckon := List.mem_of_getElem? (i := 3) rfl
theorem fl_X1_reckon_9 : Cond.fieldLink RX1 9 "LendTown$Choice" "most" "[I" ∈ wsX1_reckon := List.mem_of_getElem? (i := 4) rfl
def wd_X1_reckon (G : jG) (a_t : Nat) (a_t_borrowing : Nat) (a_t_lending : Nat) (a_t_most : Nat) (a_p1 : Nat) (a_p1_borrower : Nat) (a_p1_borrowerGain : Nat) (a_p1_either : Nat) (a_p1_lender : Nat) (a_p1_lenderGain : Nat) (a_p1_year : Nat) (a_t_row : Nat) (t_kept : Int32) (t_boundYears : Int32) (t_borrowing : Nat → Int32) (t_lending : Nat → Int32) (t_most : Nat → Int32) (p1_persons : Int32) (p1_deals : Int32) (p1_lawYears : Int32) (p1_toldParts : Int32) (a_p1_personNames : Nat) (a_p1_born : Nat) (a_p1_dies : Nat) (a_p1_limit : Nat) (a_p1_dealNames : Nat) (a_p1_byYear : Nat) (a_p1_memo : Nat) (p1_borrower : Nat → Int32) (p1_borrowerGain : Nat → Int32) (p1_either : Nat → Int32) (p1_lender : Nat → Int32) (p1_lenderGain : Nat → Int32) (p1_year : Nat → Int32) : va_W := [(a_t, .inr (1, [.ref a_t_most, .ref a_t_row, .int t_kept, .ref a_t_lending, .ref a_t_borrowing, .int t_boundYears])), (a_t_borrowing, .inl (G.2.2.1, 61, .inl t_borrowing)), (a_t_lending, .inl (G.2.2.1, 61, .inl t_lending)), (a_t_most, .inl (G.2.2.1, 61, .inl t_most)), (a_p1, .inr (10, [.int p1_persons, .int p1_deals, .int p1_lawYears, .int p1_toldParts, .ref a_p1_personNames, .ref a_p1_born, .ref a_p1_dies, .ref a_p1_limit, .ref a_p1_dealNames, .ref a_p1_lender, .ref a_p1_borrower, .ref a_p1_year, .ref a_p1_lenderGain, .ref a_p1_borrowerGain, .ref a_p1_either, .ref a_p1_byYear, .ref a_p1_memo])), (a_p1_borrower, .inl (G.2.2.1, 30, .inl p1_borrower)), (a_p1_borrowerGain, .inl (G.2.2.1, 30, .inl p1_borrowerGain)), (a_p1_either, .inl (G.2.2.1, 30, .inl p1_either)), (a_p1_lender, .inl (G.2.2.1, 30, .inl p1_lender)), (a_p1_lenderGain, .inl (G.2.2.1, 30, .inl p1_lenderGain)), (a_p1_year, .inl (G.2.2.1, 30, .inl p1_year))]
set_option maxHeartbeats 8000000 in
set_option maxRecDepth 100000 in
theorem lb_X1_reckon_0 (l : Launch) (G : jG) (a_t : Nat) (a_t_borrowing : Nat) (a_t_lending : Nat) (a_t_most : Nat) (a_p1 : Nat) (a_p1_borrower : Nat) (a_p1_borrowerGain : Nat) (a_p1_either : Nat) (a_p1_lender : Nat) (a_p1_lenderGain : Nat) (a_p1_year : Nat) (a_t_row : Nat) (t_kept : Int32) (p1_persons : Int32) (p1_deals : Int32) (p1_lawYears : Int32) (p1_toldParts : Int32) (a_p1_personNames : Nat) (a_p1_born : Nat) (a_p1_dies : Nat) (a_p1_limit : Nat) (a_p1_dealNames : Nat) (a_p1_byYear : Nat) (a_p1_memo : Nat) (p1_borrower : Nat → Int32) (p1_borrowerGain : Nat → Int32) (p1_either : Nat → Int32) (p1_lender : Nat → Int32) (p1_lenderGain : Nat → Int32) (p1_year : Nat → Int32) (p2 : Int32) (p3 : Int32) (p4 : Int32) (X : jX) (C : jC X l G 6 rm_X1_reckon cX1_reckon RX1 wsX1_reckon) (r : Int32 × (Nat → Int32) × (Nat → Int32) × (Nat → Int32)) (hE : jE X none none (wd_X1_reckon G a_t a_t_borrowing a_t_lending a_t_most a_p1 a_p1_borrower a_p1_borrowerGain a_p1_either a_p1_lender a_p1_lenderGain a_p1_year a_t_row t_kept r.1 r.2.2.1 r.2.1 r.2.2.2 p1_persons p1_deals p1_lawYears p1_toldParts a_p1_personNames a_p1_born a_p1_dies a_p1_limit a_p1_dealNames a_p1_byYear a_p1_memo p1_borrower p1_borrowerGain p1_either p1_lender p1_lenderGain p1_year)) (n : Nat) (IH1 : ∀ (v5 : Int32) (t_boundYears : Int32) (t_lending : Nat → Int32) (t_borrowing : Nat → Int32) (t_most : Nat → Int32), lpN (st_X1_reckon p1_deals p1_borrower p1_borrowerGain p1_either p1_lender p1_lenderGain p1_year p2 p3) n (.inr ((v5, t_boundYears, t_lending, t_borrowing, t_most))) = some r → J X 0 0 (wd_X1_reckon G a_t a_t_borrowing a_t_lending a_t_most a_p1 a_p1_borrower a_p1_borrowerGain a_p1_either a_p1_lender a_p1_lenderGain a_p1_year a_t_row t_kept t_boundYears t_borrowing t_lending t_most p1_persons p1_deals p1_lawYears p1_toldParts a_p1_personNames a_p1_born a_p1_dies a_p1_limit a_p1_dealNames a_p1_byYear a_p1_memo p1_borrower p1_borrowerGain p1_either p1_lender p1_lenderGain p1_year) [(0, .ref a_t), (5, .int v5)] 58 []) (k1 : Int32) (t_boundYears : Int32) (t_lending : Nat → Int32) (t_borrowing : Nat → Int32) (t_most : Nat → Int32) (hd : lpR (st_X1_reckon p1_deals p1_borrower p1_borrowerGain p1_either p1_lender p1_lenderGain p1_year p2 p3) n (bd_X1_reckon_0 p1_deals p1_borrower p1_borrowerGain p1_either p1_lender p1_lenderGain p1_year p2 p3 k1 t_boundYears t_lending t_borrowing t_most) = some r) : J X 0 0 (wd_X1_reckon G a_t a_t_borrowing a_t_lending a_t_most a_p1 a_p1_borrower a_p1_borrowerGain a_p1_either a_p1_lender a_p1_lenderGain a_p1_year a_t_row t_kept t_boundYears t_borrowing t_lending t_most p1_persons p1_deals p1_lawYears p1_toldParts a_p1_personNames a_p1_born a_p1_dies a_p1_limit a_p1_dealNames a_p1_byYear a_p1_memo p1_borrower p1_borrowerGain p1_either p1_lender p1_lenderGain p1_year) [(0, .ref a_t), (1, .ref a_p1), (2, .int p2), (3, .int p3)] 13 [.int k1, .ref a_t] := by
  unfold bd_X1_reckon_0 at hd
  refine j_put (pc := 13) (q0 := 0) (ci := 1) (kf := 5) (ws2 := wd_X1_reckon G a_t a_t_borrowing a_t_lending a_t_most a_p1 a_p1_borrower a_p1_borrowerGain a_p1_either a_p1_lender a_p1_lenderGain a_p1_year a_t_row t_kept k1 t_borrowing t_lending t_most p1_persons p1_deals p1_lawYears p1_toldParts a_p1_personNames a_p1_born a_p1_dies a_p1_limit a_p1_dealNames a_p1_byYear a_p1_memo p1_borrower p1_borrowerGain p1_either p1_lender p1_lenderGain p1_year) C dX1_reckon_13 in_X1_reckon_X1 tyX1 tyX1_ok nmX1 rfl (by decide) fl_X1_reckon_28 rfl rfl rfl rfl (Nat.le_of_ble_eq_true rfl) rfl ?_
  refine j_aload_n (pc := 16) C dX1_reckon_16 rfl 1 rfl ?_
  refine j_iload_n (pc := 17) C dX1_reckon_17 rfl 2 rfl ?_
  refine j_iload_n (pc := 18) C dX1_reckon_18 rfl 3 rfl ?_
  refine j_iconst (pc := 19) (v := 1) C dX1_reckon_19 jk_I1 ?_
  refine j_iload_n (pc := 20) C dX1_reckon_20 rfl 2 rfl ?_
  refine j_ishl (pc := 21) C dX1_reckon_21 ?_
  refine j_ior (pc := 22) C dX1_reckon_22 ?_
  refine j_aload_n (pc := 23) C dX1_reckon_23 rfl 0 rfl ?_
  refine j_get (pc := 24) (q0 := 0) (ci := 1) (kf := 3) C dX1_reckon_24 in_X1_reckon_X1 rfl (by decide) fl_X1_reckon_22 rfl rfl ?_
  obtain ⟨q2, eq2, hd⟩ := lp_bind hd
  refine j_callS (pc := 27) (As := [.ref a_p1, .int p2, .int (p3 ||| ((1 : Int32) <<< (p2 &&& 31))), .ref a_t_lending]) (rest := []) (st2 := []) (ws2 := wd_X1_reckon G a_t a_t_borrowing a_t_lending a_t_most a_p1 a_p1_borrower a_p1_borrowerGain a_p1_either a_p1_lender a_p1_lenderGain a_p1_year a_t_row t_kept k1 t_borrowing q2 t_most p1_persons p1_deals p1_lawYears p1_toldParts a_p1_personNames a_p1_born a_p1_dies a_p1_limit a_p1_dealNames a_p1_byYear a_p1_memo p1_borrower p1_borrowerGain p1_either p1_lender p1_lenderGain p1_year) C (ct_X1_addUp l G a_p1 a_p1_borrower a_p1_borrowerGain a_p1_either a_p1_lender a_p1_lenderGain a_p1_year a_t_lending p1_persons p1_deals p1_lawYears p1_toldParts a_p1_personNames a_p1_born a_p1_dies a_p1_limit a_p1_dealNames a_p1_byYear a_p1_memo p1_borrower p1_borrowerGain p1_either p1_lender p1_lenderGain p1_year t_lending p2 (p3 ||| ((1 : Int32) <<< (p2 &&& 31))) q2 eq2) jy_X1_addUp dX1_reckon_27 gX1_reckon_X1_addUp rfl (by decide) ⟨Nat.zero_le _, Nat.zero_le _⟩ [4, 5, 6, 7, 8, 9, 10, 2] rfl rfl (jpt_eq rfl rfl rfl) rfl (Nat.le_of_ble_eq_true rfl) rfl ?_
  refine j_aload_n (pc := 30) C dX1_reckon_30 rfl 1 rfl ?_
  refine j_iload_n (pc := 31) C dX1_reckon_31 rfl 2 rfl ?_
  refine j_iload_n (pc := 32) C dX1_reckon_32 rfl 3 rfl ?_
  refine j_iconst (pc := 33) (v := 1) C dX1_reckon_33 jk_I1 ?_
  refine j_iload_n (pc := 34) C dX1_reckon_34 rfl 2 rfl ?_
  refine j_ishl (pc := 35) C dX1_reckon_35 ?_
  refine j_iconst (pc := 36) (v := (-1)) C dX1_reckon_36 jk_Im1 ?_
  refine j_ixor (pc := 37) C dX1_reckon_37 ?_
  refine j_iand (pc := 38) C dX1_reckon_38 ?_
  refine j_aload_n (pc := 39) C dX1_reckon_39 rfl 0 rfl ?_
  refine j_get (pc := 40) (q0 := 0) (ci := 1) (kf := 4) C dX1_reckon_40 in_X1_reckon_X1 rfl (by decide) fl_X1_reckon_25 rfl rfl ?_
  obtain ⟨q3, eq3, hd⟩ := lp_bind hd
  refine j_callS (pc := 43) (As := [.ref a_p1, .int p2, .int (p3 &&& (((1 : Int32) <<< (p2 &&& 31)) ^^^ (-1))), .ref a_t_borrowing]) (rest := []) (st2 := []) (ws2 := wd_X1_reckon G a_t a_t_borrowing a_t_lending a_t_most a_p1 a_p1_borrower a_p1_borrowerGain a_p1_either a_p1_lender a_p1_lenderGain a_p1_year a_t_row t_kept k1 q3 q2 t_most p1_persons p1_deals p1_lawYears p1_toldParts a_p1_personNames a_p1_born a_p1_dies a_p1_limit a_p1_dealNames a_p1_byYear a_p1_memo p1_borrower p1_borrowerGain p1_either p1_lender p1_lenderGain p1_year) C (ct_X1_addUp l G a_p1 a_p1_borrower a_p1_borrowerGain a_p1_either a_p1_lender a_p1_lenderGain a_p1_year a_t_borrowing p1_persons p1_deals p1_lawYears p1_toldParts a_p1_personNames a_p1_born a_p1_dies a_p1_limit a_p1_dealNames a_p1_byYear a_p1_memo p1_borrower p1_borrowerGain p1_either p1_lender p1_lenderGain p1_year t_borrowing p2 (p3 &&& (((1 : Int32) <<< (p2 &&& 31)) ^^^ (-1))) q3 eq3) jy_X1_addUp dX1_reckon_43 gX1_reckon_X1_addUp rfl (by decide) ⟨Nat.zero_le _, Nat.zero_le _⟩ [4, 5, 6, 7, 8, 9, 10, 1] rfl rfl (jpt_eq rfl rfl rfl) rfl (Nat.le_of_ble_eq_true rfl) rfl ?_
  refine j_aload_n (pc := 46) C dX1_reckon_46 rfl 0 rfl ?_
  refine j_get (pc := 47) (q0 := 0) (ci := 1) (kf := 0) C dX1_reckon_47 in_X1_reckon_X1 rfl (by decide) fl_X1_reckon_9 rfl rfl ?_
  refine j_bipush (pc := 50) (v := 60) C dX1_reckon_50 jk_B60 ?_
  refine j_iconst (pc := 52) (v := 0) C dX1_reckon_52 jk_I0 ?_
  refine j_iast (pc := 53) (q0 := 3) (ws2 := wd_X1_reckon G a_t a_t_borrowing a_t_lending a_t_most a_p1 a_p1_borrower a_p1_borrowerGain a_p1_either a_p1_lender a_p1_lenderGain a_p1_year a_t_row t_kept k1 q3 q2 (upd t_most (60 : Int32).toNatClampNeg 0) p1_persons p1_deals p1_lawYears p1_toldParts a_p1_personNames a_p1_born a_p1_dies a_p1_limit a_p1_dealNames a_p1_byYear a_p1_memo p1_borrower p1_borrowerGain p1_either p1_lender p1_lenderGain p1_year) C dX1_reckon_53 rfl (by decide) rfl ?_
  refine j_bipush (pc := 54) (v := 59) C dX1_reckon_54 jk_B59 ?_
  refine j_istore (pc := 56) (lv2 := [(0, .ref a_t), (5, .int 59)]) C dX1_reckon_56 (by decide) [1, 0] rfl ?_
  refine j_sub (lv2 := [(0, .ref a_t), (5, .int 59)]) [0, 1] rfl ?_
  exact IH1 59 k1 q2 q3 (upd t_most (60 : Int32).toNatClampNeg 0) hd
set_option maxHeartbeats 8000000 in
set_option maxRecDepth 100000 in
theorem lb_X1_reckon_1 (l : Launch) (G : jG) (a_t : Nat) (a_t_borrowing : Nat) (a_t_lending : Nat) (a_t_most : Nat) (a_p1 : Nat) (a_p1_borrower : Nat) (a_p1_borrowerGain : Nat) (a_p1_either : Nat) (a_p1_lender : Nat) (a_p1_lenderGain : Nat) (a_p1_year : Nat) (a_t_row : Nat) (t_kept : Int32) (p1_persons : Int32) (p1_deals : Int32) (p1_lawYears : Int32) (p1_toldParts : Int32) (a_p1_personNames : Nat) (a_p1_born : Nat) (a_p1_dies : Nat) (a_p1_limit : Nat) (a_p1_dealNames : Nat) (a_p1_byYear : Nat) (a_p1_memo : Nat) (p1_borrower : Nat → Int32) (p1_borrowerGain : Nat → Int32) (p1_either : Nat → Int32) (p1_lender : Nat → Int32) (p1_lenderGain : Nat → Int32) (p1_year : Nat → Int32) (p2 : Int32) (p3 : Int32) (p4 : Int32) (X : jX) (C : jC X l G 6 rm_X1_reckon cX1_reckon RX1 wsX1_reckon) (r : Int32 × (Nat → Int32) × (Nat → Int32) × (Nat → Int32)) (hE : jE X none none (wd_X1_reckon G a_t a_t_borrowing a_t_lending a_t_most a_p1 a_p1_borrower a_p1_borrowerGain a_p1_either a_p1_lender a_p1_lenderGain a_p1_year a_t_row t_kept r.1 r.2.2.1 r.2.1 r.2.2.2 p1_persons p1_deals p1_lawYears p1_toldParts a_p1_personNames a_p1_born a_p1_dies a_p1_limit a_p1_dealNames a_p1_byYear a_p1_memo p1_borrower p1_borrowerGain p1_either p1_lender p1_lenderGain p1_year)) (n : Nat) (IH1 : ∀ (v5 : Int32) (t_boundYears : Int32) (t_lending : Nat → Int32) (t_borrowing : Nat → Int32) (t_most : Nat → Int32), lpN (st_X1_reckon p1_deals p1_borrower p1_borrowerGain p1_either p1_lender p1_lenderGain p1_year p2 p3) n (.inr ((v5, t_boundYears, t_lending, t_borrowing, t_most))) = some r → J X 0 0 (wd_X1_reckon G a_t a_t_borrowing a_t_lending a_t_most a_p1 a_p1_borrower a_p1_borrowerGain a_p1_either a_p1_lender a_p1_lenderGain a_p1_year a_t_row t_kept t_boundYears t_borrowing t_lending t_most p1_persons p1_deals p1_lawYears p1_toldParts a_p1_personNames a_p1_born a_p1_dies a_p1_limit a_p1_dealNames a_p1_byYear a_p1_memo p1_borrower p1_borrowerGain p1_either p1_lender p1_lenderGain p1_year) [(0, .ref a_t), (5, .int v5)] 58 []) (v5 : Int32) (t_boundYears : Int32) (t_lending : Nat → Int32) (t_borrowing : Nat → Int32) (t_most : Nat → Int32) (hd : lpR (st_X1_reckon p1_deals p1_borrower p1_borrowerGain p1_either p1_lender p1_lenderGain p1_year p2 p3) n (bd_X1_reckon_1 p1_deals p1_borrower p1_borrowerGain p1_either p1_lender p1_lenderGain p1_year p2 p3 v5 t_boundYears t_lending t_borrowing t_most) = some r) : J X 0 0 (wd_X1_reckon G a_t a_t_borrowing a_t_lending a_t_most a_p1 a_p1_borrower a_p1_borrowerGain a_p1_either a_p1_lender a_p1_lenderGain a_p1_year a_t_row t_kept t_boundYears t_borrowing t_lending t_most p1_persons p1_deals p1_lawYears p1_toldParts a_p1_personNames a_p1_born a_p1_dies a_p1_limit a_p1_dealNames a_p1_byYear a_p1_memo p1_borrower p1_borrowerGain p1_either p1_lender p1_lenderGain p1_year) [(0, .ref a_t), (5, .int v5)] 58 [] := by
  unfold bd_X1_reckon_1 at hd
  refine j_iload (pc := 58) C dX1_reckon_58 1 rfl ?_
  refine j_if_lt (pc := 60) (tgt := 111) C dX1_reckon_60 (by decide) (fun c4 => ?_) (fun c4 => ?_)
  · have hd := lp_pos c4 hd
    obtain rfl := Option.some.inj hd
    exact j_vret (pc := 111) C hE dX1_reckon_111 rfl rfl
  · have hd := lp_neg c4 hd
    refine j_aload_n (pc := 63) C dX1_reckon_63 rfl 0 rfl ?_
    refine j_get (pc := 64) (q0 := 0) (ci := 1) (kf := 0) C dX1_reckon_64 in_X1_reckon_X1 rfl (by decide) fl_X1_reckon_9 rfl rfl ?_
    refine j_iload (pc := 67) C dX1_reckon_67 1 rfl ?_
    refine j_aload_n (pc := 69) C dX1_reckon_69 rfl 0 rfl ?_
    refine j_get (pc := 70) (q0 := 0) (ci := 1) (kf := 0) C dX1_reckon_70 in_X1_reckon_X1 rfl (by decide) fl_X1_reckon_9 rfl rfl ?_
    refine j_iload (pc := 73) C dX1_reckon_73 1 rfl ?_
    refine j_iconst (pc := 75) (v := 1) C dX1_reckon_75 jk_I1 ?_
    refine j_iadd (pc := 76) C dX1_reckon_76 ?_
    obtain ⟨h5, hd⟩ := lp_chk hd
    refine j_iald (pc := 77) (q0 := 3) C dX1_reckon_77 rfl h5 ?_
    refine j_aload_n (pc := 78) C dX1_reckon_78 rfl 0 rfl ?_
    refine j_aload_n (pc := 79) C dX1_reckon_79 rfl 0 rfl ?_
    refine j_get (pc := 80) (q0 := 0) (ci := 1) (kf := 3) C dX1_reckon_80 in_X1_reckon_X1 rfl (by decide) fl_X1_reckon_22 rfl rfl ?_
    refine j_iload (pc := 83) C dX1_reckon_83 1 rfl ?_
    obtain ⟨q6, eq6, hd⟩ := lp_bind hd
    refine j_callV (pc := 85) (q0 := 0) (ci := 1) (As := [.ref a_t_lending, .int v5]) (rest := [.int (t_most ((v5 + 1)).toNatClampNeg), .int v5, .ref a_t_most]) (st2 := [.int q6, .int (t_most ((v5 + 1)).toNatClampNeg), .int v5, .ref a_t_most]) (ws2 := wd_X1_reckon G a_t a_t_borrowing a_t_lending a_t_most a_p1 a_p1_borrower a_p1_borrowerGain a_p1_either a_p1_lender a_p1_lenderGain a_p1_year a_t_row t_kept t_boundYears t_borrowing t_lending t_most p1_persons p1_deals p1_lawYears p1_toldParts a_p1_personNames a_p1_born a_p1_dies a_p1_limit a_p1_dealNames a_p1_byYear a_p1_memo p1_borrower p1_borrowerGain p1_either p1_lender p1_lenderGain p1_year) C (ct_X1_byBinding l G a_t a_t_most a_t_lending a_t_row t_kept a_t_lending a_t_borrowing t_boundYears t_most t_lending v5 q6 eq6) jy_X1_byBinding dX1_reckon_85 gX1_reckon_X1_byBinding rfl rfl (by decide) ⟨Nat.zero_le _, Nat.zero_le _⟩ [0, 3, 2] rfl rfl (jpt_eq rfl rfl rfl) rfl rfl rfl (Nat.le_of_ble_eq_true rfl) rfl ?_
    refine j_aload_n (pc := 88) C dX1_reckon_88 rfl 0 rfl ?_
    refine j_aload_n (pc := 89) C dX1_reckon_89 rfl 0 rfl ?_
    refine j_get (pc := 90) (q0 := 0) (ci := 1) (kf := 4) C dX1_reckon_90 in_X1_reckon_X1 rfl (by decide) fl_X1_reckon_25 rfl rfl ?_
    refine j_iload (pc := 93) C dX1_reckon_93 1 rfl ?_
    obtain ⟨q7, eq7, hd⟩ := lp_bind hd
    refine j_callV (pc := 95) (q0 := 0) (ci := 1) (As := [.ref a_t_borrowing, .int v5]) (rest := [.int q6, .int (t_most ((v5 + 1)).toNatClampNeg), .int v5, .ref a_t_most]) (st2 := [.int q7, .int q6, .int (t_most ((v5 + 1)).toNatClampNeg), .int v5, .ref a_t_most]) (ws2 := wd_X1_reckon G a_t a_t_borrowing a_t_lending a_t_most a_p1 a_p1_borrower a_p1_borrowerGain a_p1_either a_p1_lender a_p1_lenderGain a_p1_year a_t_row t_kept t_boundYears t_borrowing t_lending t_most p1_persons p1_deals p1_lawYears p1_toldParts a_p1_personNames a_p1_born a_p1_dies a_p1_limit a_p1_dealNames a_p1_byYear a_p1_memo p1_borrower p1_borrowerGain p1_either p1_lender p1_lenderGain p1_year) C (ct_X1_byBinding l G a_t a_t_most a_t_borrowing a_t_row t_kept a_t_lending a_t_borrowing t_boundYears t_most t_borrowing v5 q7 eq7) jy_X1_byBinding dX1_reckon_95 gX1_reckon_X1_byBinding rfl rfl (by decide) ⟨Nat.zero_le _, Nat.zero_le _⟩ [0, 3, 1] rfl rfl (jpt_eq rfl rfl rfl) rfl rfl rfl (Nat.le_of_ble_eq_true rfl) rfl ?_
    refine j_mmax (pc := 98) C dX1_reckon_98 (List.mem_of_getElem? (i := 5) rfl) (List.mem_of_getElem? (i := 6) rfl) (List.mem_of_getElem? (i := 7) rfl) (List.mem_of_getElem? (i := 8) rfl) (by decide) (Nat.le_of_ble_eq_true rfl) (by decide) (by decide) ?_
    refine j_mmax (pc := 101) C dX1_reckon_101 (List.mem_of_getElem? (i := 5) rfl) (List.mem_of_getElem? (i := 6) rfl) (List.mem_of_getElem? (i := 7) rfl) (List.mem_of_getElem? (i := 8) rfl) (by decide) (Nat.le_of_ble_eq_true rfl) (by decide) (by decide) ?_
    obtain ⟨h8, hd⟩ := lp_chk hd
    refine j_iast (pc := 104) (q0 := 3) (ws2 := wd_X1_reckon G a_t a_t_borrowing a_t_lending a_t_most a_p1 a_p1_borrower a_p1_borrowerGain a_p1_either a_p1_lender a_p1_lenderGain a_p1_year a_t_row t_kept t_boundYears t_borrowing t_lending (upd t_most (v5).toNatClampNeg (if (t_most ((v5 + 1)).toNatClampNeg) < (if q6 < q7 then q7 else q6) then (if q6 < q7 then q7 else q6) else (t_most ((v5 + 1)).toNatClampNeg))) p1_persons p1_deals p1_lawYears p1_toldParts a_p1_personNames a_p1_born a_p1_dies a_p1_limit a_p1_dealNames a_p1_byYear a_p1_memo p1_borrower p1_borrowerGain p1_either p1_lender p1_lenderGain p1_year) C dX1_reckon_104 rfl h8 rfl ?_
    refine j_iinc (pc := 105) (lv2 := [(0, .ref a_t), (5, .int (v5 + (-1)))]) C dX1_reckon_105 jk_Im1 (by decide) 1 rfl [1, 0] rfl ?_
    refine j_goto (pc := 108) (tgt := 58) C dX1_reckon_108 (by decide) ?_
    refine j_sub (lv2 := [(0, .ref a_t), (5, .int (v5 + (-1)))]) [0, 1] rfl ?_
    exact IH1 (v5 + (-1)) t_boundYears t_lending t_borrowing (upd t_most (v5).toNatClampNeg (if (t_most ((v5 + 1)).toNatClampNeg) < (if q6 < q7 then q7 else q6) then (if q6 < q7 then q7 else q6) else (t_most ((v5 + 1)).toNatClampNeg))) hd
set_option maxHeartbeats 8000000 in
set_option maxRecDepth 100000 in
theorem la_X1_reckon (l : Launch) (G : jG) (a_t : Nat) (a_t_borrowing : Nat) (a_t_lending : Nat) (a_t_most : Nat) (a_p1 : Nat) (a_p1_borrower : Nat) (a_p1_borrowerGain : Nat) (a_p1_either : Nat) (a_p1_lender : Nat) (a_p1_lenderGain : Nat) (a_p1_year : Nat) (a_t_row : Nat) (t_kept : Int32) (p1_persons : Int32) (p1_deals : Int32) (p1_lawYears : Int32) (p1_toldParts : Int32) (a_p1_personNames : Nat) (a_p1_born : Nat) (a_p1_dies : Nat) (a_p1_limit : Nat) (a_p1_dealNames : Nat) (a_p1_byYear : Nat) (a_p1_memo : Nat) (p1_borrower : Nat → Int32) (p1_borrowerGain : Nat → Int32) (p1_either : Nat → Int32) (p1_lender : Nat → Int32) (p1_lenderGain : Nat → Int32) (p1_year : Nat → Int32) (p2 : Int32) (p3 : Int32) (p4 : Int32) (X : jX) (C : jC X l G 6 rm_X1_reckon cX1_reckon RX1 wsX1_reckon) (r : Int32 × (Nat → Int32) × (Nat → Int32) × (Nat → Int32)) (hE : jE X none none (wd_X1_reckon G a_t a_t_borrowing a_t_lending a_t_most a_p1 a_p1_borrower a_p1_borrowerGain a_p1_either a_p1_lender a_p1_lenderGain a_p1_year a_t_row t_kept r.1 r.2.2.1 r.2.1 r.2.2.2 p1_persons p1_deals p1_lawYears p1_toldParts a_p1_personNames a_p1_born a_p1_dies a_p1_limit a_p1_dealNames a_p1_byYear a_p1_memo p1_borrower p1_borrowerGain p1_either p1_lender p1_lenderGain p1_year)) (n : Nat) : (∀ (k1 : Int32) (t_boundYears : Int32) (t_lending : Nat → Int32) (t_borrowing : Nat → Int32) (t_most : Nat → Int32), lpN (st_X1_reckon p1_deals p1_borrower p1_borrowerGain p1_either p1_lender p1_lenderGain p1_year p2 p3) n (.inl (k1, t_boundYears, t_lending, t_borrowing, t_most)) = some r → J X 0 0 (wd_X1_reckon G a_t a_t_borrowing a_t_lending a_t_most a_p1 a_p1_borrower a_p1_borrowerGain a_p1_either a_p1_lender a_p1_lenderGain a_p1_year a_t_row t_kept t_boundYears t_borrowing t_lending t_most p1_persons p1_deals p1_lawYears p1_toldParts a_p1_personNames a_p1_born a_p1_dies a_p1_limit a_p1_dealNames a_p1_byYear a_p1_memo p1_borrower p1_borrowerGain p1_either p1_lender p1_lenderGain p1_year) [(0, .ref a_t), (1, .ref a_p1), (2, .int p2), (3, .int p3)] 13 [.int k1, .ref a_t]) ∧ (∀ (v5 : Int32) (t_boundYears : Int32) (t_lending : Nat → Int32) (t_borrowing : Nat → Int32) (t_most : Nat → Int32), lpN (st_X1_reckon p1_deals p1_borrower p1_borrowerGain p1_either p1_lender p1_lenderGain p1_year p2 p3) n (.inr ((v5, t_boundYears, t_lending, t_borrowing, t_most))) = some r → J X 0 0 (wd_X1_reckon G a_t a_t_borrowing a_t_lending a_t_most a_p1 a_p1_borrower a_p1_borrowerGain a_p1_either a_p1_lender a_p1_lenderGain a_p1_year a_t_row t_kept t_boundYears t_borrowing t_lending t_most p1_persons p1_deals p1_lawYears p1_toldParts a_p1_personNames a_p1_born a_p1_dies a_p1_limit a_p1_dealNames a_p1_byYear a_p1_memo p1_borrower p1_borrowerGain p1_either p1_lender p1_lenderGain p1_year) [(0, .ref a_t), (5, .int v5)] 58 []) := by
  induction n with
  | zero => exact ⟨(fun k1 t_boundYears t_lending t_borrowing t_most h => by cases h), (fun v5 t_boundYears t_lending t_borrowing t_most h => by cases h)⟩
  | succ n ih => exact ⟨(fun k1 t_boundYears t_lending t_borrowing t_most h => lb_X1_reckon_0 l G a_t a_t_borrowing a_t_lending a_t_most a_p1 a_p1_borrower a_p1_borrowerGain a_p1_either a_p1_lender a_p1_lenderGain a_p1_year a_t_row t_kept p1_persons p1_deals p1_lawYears p1_toldParts a_p1_personNames a_p1_born a_p1_dies a_p1_limit a_p1_dealNames a_p1_byYear a_p1_memo p1_borrower p1_borrowerGain p1_either p1_lender p1_lenderGain p1_year p2 p3 p4 X C r hE n (ih.2) k1 t_boundYears t_lending t_borrowing t_most (by rw [lpN_succ] at h; exact h)), (fun v5 t_boundYears t_lending t_borrowing t_most h => lb_X1_reckon_1 l G a_t a_t_borrowing a_t_lending a_t_most a_p1 a_p1_borrower a_p1_borrowerGain a_p1_either a_p1_lender a_p1_lenderGain a_p1_year a_t_row t_kept p1_persons p1_deals p1_lawYears p1_toldParts a_p1_personNames a_p1_born a_p1_dies a_p1_limit a_p1_dealNames a_p1_byYear a_p1_memo p1_borrower p1_borrowerGain p1_either p1_lender p1_lenderGain p1_year p2 p3 p4 X C r hE n (ih.2) v5 t_boundYears t_lending t_borrowing t_most (by rw [lpN_succ] at h; exact h))⟩
set_option maxHeartbeats 8000000 in
set_option maxRecDepth 100000 in
theorem ct_X1_reckon (l : Launch) (G : jG) (a_t : Nat) (a_t_borrowing : Nat) (a_t_lending : Nat) (a_t_most : Nat) (a_p1 : Nat) (a_p1_borrower : Nat) (a_p1_borrowerGain : Nat) (a_p1_either : Nat) (a_p1_lender : Nat) (a_p1_lenderGain : Nat) (a_p1_year : Nat) (a_t_row : Nat) (t_kept : Int32) (t_boundYears : Int32) (t_borrowing : Nat → Int32) (t_lending : Nat → Int32) (t_most : Nat → Int32) (p1_persons : Int32) (p1_deals : Int32) (p1_lawYears : Int32) (p1_toldParts : Int32) (a_p1_personNames : Nat) (a_p1_born : Nat) (a_p1_dies : Nat) (a_p1_limit : Nat) (a_p1_dealNames : Nat) (a_p1_byYear : Nat) (a_p1_memo : Nat) (p1_borrower : Nat → Int32) (p1_borrowerGain : Nat → Int32) (p1_either : Nat → Int32) (p1_lender : Nat → Int32) (p1_lenderGain : Nat → Int32) (p1_year : Nat → Int32) (p2 : Int32) (p3 : Int32) (p4 : Int32) (r : Int32 × (Nat → Int32) × (Nat → Int32) × (Nat → Int32)) (hd : dn_X1_reckon t_boundYears t_borrowing t_lending t_most p1_deals p1_borrower p1_borrowerGain p1_either p1_lender p1_lenderGain p1_year p2 p3 p4 = some r) : jM l G yX1_reckon wsX1_reckon rm_X1_reckon [.ref a_t, .ref a_p1, .int p2, .int p3, .int p4] (wd_X1_reckon G a_t a_t_borrowing a_t_lending a_t_most a_p1 a_p1_borrower a_p1_borrowerGain a_p1_either a_p1_lender a_p1_lenderGain a_p1_year a_t_row t_kept t_boundYears t_borrowing t_lending t_most p1_persons p1_deals p1_lawYears p1_toldParts a_p1_personNames a_p1_born a_p1_dies a_p1_limit a_p1_dealNames a_p1_byYear a_p1_memo p1_borrower p1_borrowerGain p1_either p1_lender p1_lenderGain p1_year) none (wd_X1_reckon G a_t a_t_borrowing a_t_lending a_t_most a_p1 a_p1_borrower a_p1_borrowerGain a_p1_either a_p1_lender a_p1_lenderGain a_p1_year a_t_row t_kept r.1 r.2.2.1 r.2.1 r.2.2.2 p1_persons p1_deals p1_lawYears p1_toldParts a_p1_personNames a_p1_born a_p1_dies a_p1_limit a_p1_dealNames a_p1_byYear a_p1_memo p1_borrower p1_borrowerGain p1_either p1_lender p1_lenderGain p1_year) := by
  refine jM_of (own := RX1) (by decide) rfl rfl rfl (Nat.le_of_ble_eq_true rfl) (lv0 := [(0, .ref a_t), (1, .ref a_p1), (2, .int p2), (3, .int p3), (4, .int p4)]) rfl (fun X C hE => ?_)
  unfold dn_X1_reckon at hd
  refine j_aload_n (pc := 0) C dX1_reckon_0 rfl 0 rfl ?_
  refine j_iload (pc := 1) C dX1_reckon_1 4 rfl ?_
  refine j_if_ne (pc := 3) (tgt := 11) C dX1_reckon_3 (by decide) (fun c1 => ?_) (fun c1 => ?_)
  · have hd := ob_neg c1 hd
    refine j_iload (pc := 11) C dX1_reckon_11 4 rfl ?_
    refine j_sub (lv2 := [(0, .ref a_t), (1, .ref a_p1), (2, .int p2), (3, .int p3)]) [0, 1, 2, 3] rfl ?_
    obtain ⟨n, hn⟩ := lpC_ex hd
    exact (la_X1_reckon l G a_t a_t_borrowing a_t_lending a_t_most a_p1 a_p1_borrower a_p1_borrowerGain a_p1_either a_p1_lender a_p1_lenderGain a_p1_year a_t_row t_kept p1_persons p1_deals p1_lawYears p1_toldParts a_p1_personNames a_p1_born a_p1_dies a_p1_limit a_p1_dealNames a_p1_byYear a_p1_memo p1_borrower p1_borrowerGain p1_either p1_lender p1_lenderGain p1_year p2 p3 p4 X C r hE n).1 p4 t_boundYears t_lending t_borrowing t_most hn
  · have hd := ob_pos c1 hd
    refine j_bipush (pc := 6) (v := 60) C dX1_reckon_6 jk_B60 ?_
    refine j_goto (pc := 8) (tgt := 13) C dX1_reckon_8 (by decide) ?_
    refine j_sub (lv2 := [(0, .ref a_t), (1, .ref a_p1), (2, .int p2), (3, .int p3)]) [0, 1, 2, 3] rfl ?_
    obtain ⟨n, hn⟩ := lpC_ex hd
    exact (la_X1_reckon l G a_t a_t_borrowing a_t_lending a_t_most a_p1 a_p1_borrower a_p1_borrowerGain a_p1_either a_p1_lender a_p1_lenderGain a_p1_year a_t_row t_kept p1_persons p1_deals p1_lawYears p1_toldParts a_p1_personNames a_p1_born a_p1_dies a_p1_limit a_p1_dealNames a_p1_byYear a_p1_memo p1_borrower p1_borrowerGain p1_either p1_lender p1_lenderGain p1_year p2 p3 p4 X C r hE n).1 60 t_boundYears t_lending t_borrowing t_most hn
/-! ##### LendTown$Choice.keepRow()V -/
abbrev rm_X1_keepRow : Room := { frames := 3, cells := 0, slots := 0, locals := 65 }
theorem jy_X1_keepRow : jY yX1_keepRow wsX1_keepRow rm_X1_keepRow cX1_keepRow 6 none 0 := ⟨⟨_, rfl⟩, ⟨rfl, rfl⟩, by decide, by decide, by decide +kernel⟩
theorem in_X1_keepRow_X1 : ∀ w ∈ u_ws RX1 TX1 6, w ∈ wsX1_keepRow := fun w h => List.mem_cons_of_mem _ (List.mem_append_right _ (h))
theorem fl_X1_keepRow_18 : Cond.fieldLink RX1 18 "LendTown$Choice" "kept" "Z" ∈ wsX1_keepRow := List.mem_of_getElem? (i := 1) rfl
theorem fl_X1_keepRow_22 : Cond.fieldLink RX1 22 "LendTown$Choice" "lending" "[I" ∈ wsX1_keepRow := List.mem_of_getElem? (i := 2) rfl
theorem fl_X1_keepRow_9 : Cond.fieldLink RX1 9 "LendTown$Choice" "most" "[I" ∈ wsX1_keepRow := List.mem_of_getElem? (i := 4) rfl
theorem fl_X1_keepRow_15 : Cond.fieldLink RX1 15 "LendTown$Choice" "row" "[I" ∈ wsX1_keepRow := List.mem_of_getElem? (i := 3) rfl
theorem fl_X1_keepRow_25 : Cond.fieldLink RX1 25 "LendTown$Choice" "borrowing" "[I" ∈ wsX1_keepRow := List.mem_of_getElem? (i := 5) rfl
def wd_X1_keepRow (G : jG) (a_t : Nat) (a_t_borrowing : Nat) (a_t_lending : Nat) (a_t_most : Nat) (a_t_row : Nat) (t_kept : Int32) (t_boundYears : Int32) (t_borrowing : Nat → Int32) (t_lending : Nat → Int32) (t_most : Nat → Int32) (t_row : Nat → Int32) : va_W := [(a_t, .inr (1, [.ref a_t_most, .ref a_t_row, .int t_kept, .ref a_t_lending, .ref a_t_borrowing, .int t_boundYears])), (a_t_borrowing, .inl (G.2.2.1, 61, .inl t_borrowing)), (a_t_lending, .inl (G.2.2.1, 61, .inl t_lending)), (a_t_most, .inl (G.2.2.1, 61, .inl t_most)), (a_t_row, .inl (G.2.2.1, 60, .inl t_row))]
set_option maxHeartbeats 8000000 in
set_option maxRecDepth 100000 in
theorem lb_X1_keepRow_0 (l : Launch) (G : jG) (a_t : Nat) (a_t_borrowing : Nat) (a_t_lending : Nat) (a_t_most : Nat) (a_t_row : Nat) (t_boundYears : Int32) (t_borrowing : Nat → Int32) (t_lending : Nat → Int32) (t_most : Nat → Int32)  (X : jX) (C : jC X l G 6 rm_X1_keepRow cX1_keepRow RX1 wsX1_keepRow) (r : Int32 × (Nat → Int32)) (hE : jE X none none (wd_X1_keepRow G a_t a_t_borrowing a_t_lending a_t_most a_t_row r.1 t_boundYears t_borrowing t_lending t_most r.2)) (n : Nat) (IH0 : ∀ (v1 : Int32) (v2 : Int32) (v4 : Int32) (t_kept : Int32) (t_row : Nat → Int32), lpN (st_X1_keepRow t_boundYears t_borrowing t_lending t_most) n (.inl (v1, v2, v4, t_kept, t_row)) = some r → J X 0 0 (wd_X1_keepRow G a_t a_t_borrowing a_t_lending a_t_most a_t_row t_kept t_boundYears t_borrowing t_lending t_most t_row) [(0, .ref a_t), (1, .int v1), (2, .int v2), (3, .ref a_t_lending), (4, .int v4)] 17 []) (IH1 : ∀ (v4 : Int32) (k0 : Int32) (t_kept : Int32) (t_row : Nat → Int32), lpN (st_X1_keepRow t_boundYears t_borrowing t_lending t_most) n (.inr (.inl (v4, k0, t_kept, t_row))) = some r → J X 0 0 (wd_X1_keepRow G a_t a_t_borrowing a_t_lending a_t_most a_t_row t_kept t_boundYears t_borrowing t_lending t_most t_row) [(0, .ref a_t), (4, .int v4)] 113 [.int k0]) (v1 : Int32) (v2 : Int32) (v4 : Int32) (t_kept : Int32) (t_row : Nat → Int32) (hd : lpR (st_X1_keepRow t_boundYears t_borrowing t_lending t_most) n (bd_X1_keepRow_0 t_boundYears t_borrowing t_lending t_most v1 v2 v4 t_kept t_row) = some r) : J X 0 0 (wd_X1_keepRow G a_t a_t_borrowing a_t_lending a_t_most a_t_row t_kept t_boundYears t_borrowing t_lending t_most t_row) [(0, .ref a_t), (1, .int v1), (2, .int v2), (3, .ref a_t_lending), (4, .int v4)] 17 [] := by
  unfold bd_X1_keepRow_0 at hd
  refine j_iload (pc := 17) C dX1_keepRow_17 4 rfl ?_
  refine j_bipush (pc := 19) (v := 60) C dX1_keepRow_19 jk_B60 ?_
  refine j_icmp_ge (pc := 21) (tgt := 164) C dX1_keepRow_21 (by decide) (fun c1 => ?_) (fun c1 => ?_)
  · have hd := lp_pos c1 hd
    obtain rfl := Option.some.inj hd
    exact j_vret (pc := 164) C hE dX1_keepRow_164 rfl rfl
  · have hd := lp_neg c1 hd
    refine j_iload (pc := 24) C dX1_keepRow_24 4 rfl ?_
    refine j_iload_n (pc := 26) C dX1_keepRow_26 rfl 1 rfl ?_
    refine j_icmp_ge (pc := 27) (tgt := 58) C dX1_keepRow_27 (by decide) (fun c2 => ?_) (fun c2 => ?_)
    · have hd := lp_pos c2 hd
      refine j_aload_n (pc := 58) C dX1_keepRow_58 rfl 0 rfl ?_
      refine j_get (pc := 59) (q0 := 0) (ci := 1) (kf := 0) C dX1_keepRow_59 in_X1_keepRow_X1 rfl (by decide) fl_X1_keepRow_9 rfl rfl ?_
      refine j_iload (pc := 62) C dX1_keepRow_62 4 rfl ?_
      obtain ⟨h3, hd⟩ := lp_chk hd
      refine j_iald (pc := 64) (q0 := 3) C dX1_keepRow_64 rfl h3 ?_
      refine j_aload_n (pc := 65) C dX1_keepRow_65 rfl 0 rfl ?_
      refine j_get (pc := 66) (q0 := 0) (ci := 1) (kf := 0) C dX1_keepRow_66 in_X1_keepRow_X1 rfl (by decide) fl_X1_keepRow_9 rfl rfl ?_
      refine j_iload (pc := 69) C dX1_keepRow_69 4 rfl ?_
      refine j_iconst (pc := 71) (v := 1) C dX1_keepRow_71 jk_I1 ?_
      refine j_iadd (pc := 72) C dX1_keepRow_72 ?_
      obtain ⟨h4, hd⟩ := lp_chk hd
      refine j_iald (pc := 73) (q0 := 3) C dX1_keepRow_73 rfl h4 ?_
      refine j_icmp_ne (pc := 74) (tgt := 88) C dX1_keepRow_74 (by decide) (fun c5 => ?_) (fun c5 => ?_)
      · have hd := lp_neg c5 hd
        refine j_aload_n (pc := 88) C dX1_keepRow_88 rfl 0 rfl ?_
        refine j_get (pc := 89) (q0 := 0) (ci := 1) (kf := 0) C dX1_keepRow_89 in_X1_keepRow_X1 rfl (by decide) fl_X1_keepRow_9 rfl rfl ?_
        refine j_iload (pc := 92) C dX1_keepRow_92 4 rfl ?_
        obtain ⟨h6, hd⟩ := lp_chk hd
        refine j_iald (pc := 94) (q0 := 3) C dX1_keepRow_94 rfl h6 ?_
        refine j_aload_n (pc := 95) C dX1_keepRow_95 rfl 0 rfl ?_
        refine j_aload_n (pc := 96) C dX1_keepRow_96 rfl 0 rfl ?_
        refine j_get (pc := 97) (q0 := 0) (ci := 1) (kf := 3) C dX1_keepRow_97 in_X1_keepRow_X1 rfl (by decide) fl_X1_keepRow_22 rfl rfl ?_
        refine j_iload (pc := 100) C dX1_keepRow_100 4 rfl ?_
        obtain ⟨q7, eq7, hd⟩ := lp_bind hd
        refine j_callV (pc := 102) (q0 := 0) (ci := 1) (As := [.ref a_t_lending, .int v4]) (rest := [.int (t_most (v4).toNatClampNeg)]) (st2 := [.int q7, .int (t_most (v4).toNatClampNeg)]) (ws2 := wd_X1_keepRow G a_t a_t_borrowing a_t_lending a_t_most a_t_row t_kept t_boundYears t_borrowing t_lending t_most t_row) C (ct_X1_byBinding l G a_t a_t_most a_t_lending a_t_row t_kept a_t_lending a_t_borrowing t_boundYears t_most t_lending v4 q7 eq7) jy_X1_byBinding dX1_keepRow_102 gX1_keepRow_X1_byBinding rfl rfl (by decide) ⟨Nat.zero_le _, Nat.zero_le _⟩ [0, 3, 2] rfl rfl (jpt_eq rfl rfl rfl) rfl rfl rfl (Nat.le_of_ble_eq_true rfl) rfl ?_
        refine j_icmp_ne (pc := 105) (tgt := 112) C dX1_keepRow_105 (by decide) (fun c8 => ?_) (fun c8 => ?_)
        · have hd := lp_neg c8 hd
          refine j_iconst (pc := 112) (v := 0) C dX1_keepRow_112 jk_I0 ?_
          refine j_sub (lv2 := [(0, .ref a_t), (4, .int v4)]) [0, 4] rfl ?_
          exact IH1 v4 0 t_kept t_row hd
        · have hd := lp_pos c8 hd
          refine j_iconst (pc := 108) (v := 1) C dX1_keepRow_108 jk_I1 ?_
          refine j_goto (pc := 109) (tgt := 113) C dX1_keepRow_109 (by decide) ?_
          refine j_sub (lv2 := [(0, .ref a_t), (4, .int v4)]) [0, 4] rfl ?_
          exact IH1 v4 1 t_kept t_row hd
      · have hd := lp_pos c5 hd
        refine j_aload_n (pc := 77) C dX1_keepRow_77 rfl 0 rfl ?_
        refine j_get (pc := 78) (q0 := 0) (ci := 1) (kf := 1) C dX1_keepRow_78 in_X1_keepRow_X1 rfl (by decide) fl_X1_keepRow_15 rfl rfl ?_
        refine j_iload (pc := 81) C dX1_keepRow_81 4 rfl ?_
        refine j_iconst (pc := 83) (v := 0) C dX1_keepRow_83 jk_I0 ?_
        obtain ⟨h9, hd⟩ := lp_chk hd
        refine j_iast (pc := 84) (q0 := 4) (ws2 := wd_X1_keepRow G a_t a_t_borrowing a_t_lending a_t_most a_t_row t_kept t_boundYears t_borrowing t_lending t_most (upd t_row (v4).toNatClampNeg 0)) C dX1_keepRow_84 rfl h9 rfl ?_
        refine j_goto (pc := 85) (tgt := 158) C dX1_keepRow_85 (by decide) ?_
        refine j_iinc (pc := 158) (lv2 := [(0, .ref a_t), (1, .int v1), (2, .int v2), (3, .ref a_t_lending), (4, .int (v4 + 1))]) C dX1_keepRow_158 jk_I1 (by decide) 4 rfl [1, 2, 3, 4, 0] rfl ?_
        refine j_goto (pc := 161) (tgt := 17) C dX1_keepRow_161 (by decide) ?_
        refine j_sub (lv2 := [(0, .ref a_t), (1, .int v1), (2, .int v2), (3, .ref a_t_lending), (4, .int (v4 + 1))]) [0, 1, 2, 3, 4] rfl ?_
        exact IH0 v1 v2 (v4 + 1) t_kept (upd t_row (v4).toNatClampNeg 0) hd
    · have hd := lp_neg c2 hd
      refine j_aload_n (pc := 30) C dX1_keepRow_30 rfl 0 rfl ?_
      refine j_get (pc := 31) (q0 := 0) (ci := 1) (kf := 1) C dX1_keepRow_31 in_X1_keepRow_X1 rfl (by decide) fl_X1_keepRow_15 rfl rfl ?_
      refine j_iload (pc := 34) C dX1_keepRow_34 4 rfl ?_
      refine j_aload_n (pc := 36) C dX1_keepRow_36 rfl 3 rfl ?_
      refine j_iload (pc := 37) C dX1_keepRow_37 4 rfl ?_
      refine j_iconst (pc := 39) (v := 1) C dX1_keepRow_39 jk_I1 ?_
      refine j_iadd (pc := 40) C dX1_keepRow_40 ?_
      obtain ⟨h10, hd⟩ := lp_chk hd
      refine j_iald (pc := 41) (q0 := 2) C dX1_keepRow_41 rfl h10 ?_
      refine j_aload_n (pc := 42) C dX1_keepRow_42 rfl 3 rfl ?_
      refine j_iload (pc := 43) C dX1_keepRow_43 4 rfl ?_
      obtain ⟨h11, hd⟩ := lp_chk hd
      refine j_iald (pc := 45) (q0 := 2) C dX1_keepRow_45 rfl h11 ?_
      refine j_icmp_le (pc := 46) (tgt := 53) C dX1_keepRow_46 (by decide) (fun c12 => ?_) (fun c12 => ?_)
      · have hd := lp_pos c12 hd
        refine j_iconst (pc := 53) (v := 0) C dX1_keepRow_53 jk_I0 ?_
        obtain ⟨h13, hd⟩ := lp_chk hd
        refine j_iast (pc := 54) (q0 := 4) (ws2 := wd_X1_keepRow G a_t a_t_borrowing a_t_lending a_t_most a_t_row t_kept t_boundYears t_borrowing t_lending t_most (upd t_row (v4).toNatClampNeg 0)) C dX1_keepRow_54 rfl h13 rfl ?_
        refine j_goto (pc := 55) (tgt := 158) C dX1_keepRow_55 (by decide) ?_
        refine j_iinc (pc := 158) (lv2 := [(0, .ref a_t), (1, .int v1), (2, .int v2), (3, .ref a_t_lending), (4, .int (v4 + 1))]) C dX1_keepRow_158 jk_I1 (by decide) 4 rfl [1, 2, 3, 4, 0] rfl ?_
        refine j_goto (pc := 161) (tgt := 17) C dX1_keepRow_161 (by decide) ?_
        refine j_sub (lv2 := [(0, .ref a_t), (1, .int v1), (2, .int v2), (3, .ref a_t_lending), (4, .int (v4 + 1))]) [0, 1, 2, 3, 4] rfl ?_
        exact IH0 v1 v2 (v4 + 1) t_kept (upd t_row (v4).toNatClampNeg 0) hd
      · have hd := lp_neg c12 hd
        refine j_iload_n (pc := 49) C dX1_keepRow_49 rfl 2 rfl ?_
        refine j_goto (pc := 50) (tgt := 54) C dX1_keepRow_50 (by decide) ?_
        obtain ⟨h14, hd⟩ := lp_chk hd
        refine j_iast (pc := 54) (q0 := 4) (ws2 := wd_X1_keepRow G a_t a_t_borrowing a_t_lending a_t_most a_t_row t_kept t_boundYears t_borrowing t_lending t_most (upd t_row (v4).toNatClampNeg v2)) C dX1_keepRow_54 rfl h14 rfl ?_
        refine j_goto (pc := 55) (tgt := 158) C dX1_keepRow_55 (by decide) ?_
        refine j_iinc (pc := 158) (lv2 := [(0, .ref a_t), (1, .int v1), (2, .int v2), (3, .ref a_t_lending), (4, .int (v4 + 1))]) C dX1_keepRow_158 jk_I1 (by decide) 4 rfl [1, 2, 3, 4, 0] rfl ?_
        refine j_goto (pc := 161) (tgt := 17) C dX1_keepRow_161 (by decide) ?_
        refine j_sub (lv2 := [(0, .ref a_t), (1, .int v1), (2, .int v2), (3, .ref a_t_lending), (4, .int (v4 + 1))]) [0, 1, 2, 3, 4] rfl ?_
        exact IH0 v1 v2 (v4 + 1) t_kept (upd t_row (v4).toNatClampNeg v2) hd
set_option maxHeartbeats 8000000 in
set_option maxRecDepth 100000 in
theorem lb_X1_keepRow_1 (l : Launch) (G : jG) (a_t : Nat) (a_t_borrowing : Nat) (a_t_lending : Nat) (a_t_most : Nat) (a_t_row : Nat) (t_boundYears : Int32) (t_borrowing : Nat → Int32) (t_lending : Nat → Int32) (t_most : Nat → Int32)  (X : jX) (C : jC X l G 6 rm_X1_keepRow cX1_keepRow RX1 wsX1_keepRow) (r : Int32 × (Nat → Int32)) (hE : jE X none none (wd_X1_keepRow G a_t a_t_borrowing a_t_lending a_t_most a_t_row r.1 t_boundYears t_borrowing t_lending t_most r.2)) (n : Nat) (IH2 : ∀ (v2 : Int32) (v4 : Int32) (t_kept : Int32) (t_row : Nat → Int32), lpN (st_X1_keepRow t_boundYears t_borrowing t_lending t_most) n (.inr (.inr (.inl (v2, v4, t_kept, t_row)))) = some r → J X 0 0 (wd_X1_keepRow G a_t a_t_borrowing a_t_lending a_t_most a_t_row t_kept t_boundYears t_borrowing t_lending t_most t_row) [(0, .ref a_t), (2, .int v2), (4, .int v4)] 142 [.ref a_t_borrowing]) (IH3 : ∀ (v2 : Int32) (v4 : Int32) (t_kept : Int32) (t_row : Nat → Int32), lpN (st_X1_keepRow t_boundYears t_borrowing t_lending t_most) n (.inr (.inr (.inr (.inl (v2, v4, t_kept, t_row))))) = some r → J X 0 0 (wd_X1_keepRow G a_t a_t_borrowing a_t_lending a_t_most a_t_row t_kept t_boundYears t_borrowing t_lending t_most t_row) [(0, .ref a_t), (2, .int v2), (4, .int v4)] 142 [.ref a_t_lending]) (v4 : Int32) (k0 : Int32) (t_kept : Int32) (t_row : Nat → Int32) (hd : lpR (st_X1_keepRow t_boundYears t_borrowing t_lending t_most) n (bd_X1_keepRow_1 t_boundYears t_borrowing t_lending t_most v4 k0 t_kept t_row) = some r) : J X 0 0 (wd_X1_keepRow G a_t a_t_borrowing a_t_lending a_t_most a_t_row t_kept t_boundYears t_borrowing t_lending t_most t_row) [(0, .ref a_t), (4, .int v4)] 113 [.int k0] := by
  unfold bd_X1_keepRow_1 at hd
  refine j_istore (pc := 113) (lv2 := [(0, .ref a_t), (4, .int v4), (5, .int k0)]) C dX1_keepRow_113 (by decide) [1, 2, 0] rfl ?_
  refine j_iload (pc := 115) C dX1_keepRow_115 2 rfl ?_
  refine j_if_eq (pc := 117) (tgt := 124) C dX1_keepRow_117 (by decide) (fun c15 => ?_) (fun c15 => ?_)
  · have hd := lp_pos c15 hd
    refine j_iconst (pc := 124) (v := 2) C dX1_keepRow_124 jk_I2 ?_
    refine j_istore_n (pc := 125) (lv2 := [(0, .ref a_t), (2, .int 2), (4, .int v4), (5, .int k0)]) C dX1_keepRow_125 rfl (by decide) [1, 0, 2, 3] rfl ?_
    refine j_iload (pc := 126) C dX1_keepRow_126 3 rfl ?_
    refine j_if_eq (pc := 128) (tgt := 138) C dX1_keepRow_128 (by decide) (fun c16 => ?_) (fun c16 => ?_)
    · have hd := lp_pos c16 hd
      refine j_aload_n (pc := 138) C dX1_keepRow_138 rfl 0 rfl ?_
      refine j_get (pc := 139) (q0 := 0) (ci := 1) (kf := 4) C dX1_keepRow_139 in_X1_keepRow_X1 rfl (by decide) fl_X1_keepRow_25 rfl rfl ?_
      refine j_sub (lv2 := [(0, .ref a_t), (2, .int 2), (4, .int v4)]) [0, 1, 2] rfl ?_
      exact IH2 2 v4 t_kept t_row hd
    · have hd := lp_neg c16 hd
      refine j_aload_n (pc := 131) C dX1_keepRow_131 rfl 0 rfl ?_
      refine j_get (pc := 132) (q0 := 0) (ci := 1) (kf := 3) C dX1_keepRow_132 in_X1_keepRow_X1 rfl (by decide) fl_X1_keepRow_22 rfl rfl ?_
      refine j_goto (pc := 135) (tgt := 142) C dX1_keepRow_135 (by decide) ?_
      refine j_sub (lv2 := [(0, .ref a_t), (2, .int 2), (4, .int v4)]) [0, 1, 2] rfl ?_
      exact IH3 2 v4 t_kept t_row hd
  · have hd := lp_neg c15 hd
    refine j_iconst (pc := 120) (v := 1) C dX1_keepRow_120 jk_I1 ?_
    refine j_goto (pc := 121) (tgt := 125) C dX1_keepRow_121 (by decide) ?_
    refine j_istore_n (pc := 125) (lv2 := [(0, .ref a_t), (2, .int 1), (4, .int v4), (5, .int k0)]) C dX1_keepRow_125 rfl (by decide) [1, 0, 2, 3] rfl ?_
    refine j_iload (pc := 126) C dX1_keepRow_126 3 rfl ?_
    refine j_if_eq (pc := 128) (tgt := 138) C dX1_keepRow_128 (by decide) (fun c17 => ?_) (fun c17 => ?_)
    · have hd := lp_pos c17 hd
      refine j_aload_n (pc := 138) C dX1_keepRow_138 rfl 0 rfl ?_
      refine j_get (pc := 139) (q0 := 0) (ci := 1) (kf := 4) C dX1_keepRow_139 in_X1_keepRow_X1 rfl (by decide) fl_X1_keepRow_25 rfl rfl ?_
      refine j_sub (lv2 := [(0, .ref a_t), (2, .int 1), (4, .int v4)]) [0, 1, 2] rfl ?_
      exact IH2 1 v4 t_kept t_row hd
    · have hd := lp_neg c17 hd
      refine j_aload_n (pc := 131) C dX1_keepRow_131 rfl 0 rfl ?_
      refine j_get (pc := 132) (q0 := 0) (ci := 1) (kf := 3) C dX1_keepRow_132 in_X1_keepRow_X1 rfl (by decide) fl_X1_keepRow_22 rfl rfl ?_
      refine j_goto (pc := 135) (tgt := 142) C dX1_keepRow_135 (by decide) ?_
      refine j_sub (lv2 := [(0, .ref a_t), (2, .int 1), (4, .int v4)]) [0, 1, 2] rfl ?_
      exact IH3 1 v4 t_kept t_row hd
set_option maxHeartbeats 8000000 in
set_option maxRecDepth 100000 in
theorem lb_X1_keepRow_2 (l : Launch) (G : jG) (a_t : Nat) (a_t_borrowing : Nat) (a_t_lending : Nat) (a_t_most : Nat) (a_t_row : Nat) (t_boundYears : Int32) (t_borrowing : Nat → Int32) (t_lending : Nat → Int32) (t_most : Nat → Int32)  (X : jX) (C : jC X l G 6 rm_X1_keepRow cX1_keepRow RX1 wsX1_keepRow) (r : Int32 × (Nat → Int32)) (hE : jE X none none (wd_X1_keepRow G a_t a_t_borrowing a_t_lending a_t_most a_t_row r.1 t_boundYears t_borrowing t_lending t_most r.2)) (n : Nat) (IH4 : ∀ (v1 : Int32) (v2 : Int32) (v4 : Int32) (t_kept : Int32) (t_row : Nat → Int32), lpN (st_X1_keepRow t_boundYears t_borrowing t_lending t_most) n (.inr (.inr (.inr (.inr ((v1, v2, v4, t_kept, t_row)))))) = some r → J X 0 0 (wd_X1_keepRow G a_t a_t_borrowing a_t_lending a_t_most a_t_row t_kept t_boundYears t_borrowing t_lending t_most t_row) [(0, .ref a_t), (1, .int v1), (2, .int v2), (3, .ref a_t_borrowing), (4, .int v4)] 17 []) (v2 : Int32) (v4 : Int32) (t_kept : Int32) (t_row : Nat → Int32) (hd : lpR (st_X1_keepRow t_boundYears t_borrowing t_lending t_most) n (bd_X1_keepRow_2 t_boundYears t_borrowing t_lending t_most v2 v4 t_kept t_row) = some r) : J X 0 0 (wd_X1_keepRow G a_t a_t_borrowing a_t_lending a_t_most a_t_row t_kept t_boundYears t_borrowing t_lending t_most t_row) [(0, .ref a_t), (2, .int v2), (4, .int v4)] 142 [.ref a_t_borrowing] := by
  unfold bd_X1_keepRow_2 at hd
  refine j_astore_n (pc := 142) (lv2 := [(0, .ref a_t), (2, .int v2), (3, .ref a_t_borrowing), (4, .int v4)]) C dX1_keepRow_142 rfl (by decide) [1, 2, 0, 3] rfl ?_
  refine j_aload_n (pc := 143) C dX1_keepRow_143 rfl 0 rfl ?_
  refine j_iload (pc := 144) C dX1_keepRow_144 3 rfl ?_
  obtain ⟨q18, eq18, hd⟩ := lp_bind hd
  refine j_callV (pc := 146) (q0 := 0) (ci := 1) (As := [.int v4]) (rest := []) (st2 := [.int q18]) (ws2 := wd_X1_keepRow G a_t a_t_borrowing a_t_lending a_t_most a_t_row t_kept t_boundYears t_borrowing t_lending t_most t_row) C (ct_X1_freeAgain l G a_t a_t_most a_t_row t_kept a_t_lending a_t_borrowing t_boundYears v4 q18 eq18) jy_X1_freeAgain dX1_keepRow_146 gX1_keepRow_X1_freeAgain rfl rfl (by decide) ⟨Nat.zero_le _, Nat.zero_le _⟩ [0] rfl rfl (jpt_eq rfl rfl rfl) rfl rfl rfl (Nat.le_of_ble_eq_true rfl) rfl ?_
  refine j_istore_n (pc := 149) (lv2 := [(0, .ref a_t), (1, .int q18), (2, .int v2), (3, .ref a_t_borrowing), (4, .int v4)]) C dX1_keepRow_149 rfl (by decide) [1, 0, 2, 3, 4] rfl ?_
  refine j_aload_n (pc := 150) C dX1_keepRow_150 rfl 0 rfl ?_
  refine j_get (pc := 151) (q0 := 0) (ci := 1) (kf := 1) C dX1_keepRow_151 in_X1_keepRow_X1 rfl (by decide) fl_X1_keepRow_15 rfl rfl ?_
  refine j_iload (pc := 154) C dX1_keepRow_154 4 rfl ?_
  refine j_iload_n (pc := 156) C dX1_keepRow_156 rfl 2 rfl ?_
  obtain ⟨h19, hd⟩ := lp_chk hd
  refine j_iast (pc := 157) (q0 := 4) (ws2 := wd_X1_keepRow G a_t a_t_borrowing a_t_lending a_t_most a_t_row t_kept t_boundYears t_borrowing t_lending t_most (upd t_row (v4).toNatClampNeg v2)) C dX1_keepRow_157 rfl h19 rfl ?_
  refine j_iinc (pc := 158) (lv2 := [(0, .ref a_t), (1, .int q18), (2, .int v2), (3, .ref a_t_borrowing), (4, .int (v4 + 1))]) C dX1_keepRow_158 jk_I1 (by decide) 4 rfl [1, 2, 3, 4, 0] rfl ?_
  refine j_goto (pc := 161) (tgt := 17) C dX1_keepRow_161 (by decide) ?_
  refine j_sub (lv2 := [(0, .ref a_t), (1, .int q18), (2, .int v2), (3, .ref a_t_borrowing), (4, .int (v4 + 1))]) [0, 1, 2, 3, 4] rfl ?_
  exact IH4 q18 v2 (v4 + 1) t_kept (upd t_row (v4).toNatClampNeg v2) hd
set_option maxHeartbeats 8000000 in
set_option maxRecDepth 100000 in
theorem lb_X1_keepRow_3 (l : Launch) (G : jG) (a_t : Nat) (a_t_borrowing : Nat) (a_t_lending : Nat) (a_t_most : Nat) (a_t_row : Nat) (t_boundYears : Int32) (t_borrowing : Nat → Int32) (t_lending : Nat → Int32) (t_most : Nat → Int32)  (X : jX) (C : jC X l G 6 rm_X1_keepRow cX1_keepRow RX1 wsX1_keepRow) (r : Int32 × (Nat → Int32)) (hE : jE X none none (wd_X1_keepRow G a_t a_t_borrowing a_t_lending a_t_most a_t_row r.1 t_boundYears t_borrowing t_lending t_most r.2)) (n : Nat) (IH0 : ∀ (v1 : Int32) (v2 : Int32) (v4 : Int32) (t_kept : Int32) (t_row : Nat → Int32), lpN (st_X1_keepRow t_boundYears t_borrowing t_lending t_most) n (.inl (v1, v2, v4, t_kept, t_row)) = some r → J X 0 0 (wd_X1_keepRow G a_t a_t_borrowing a_t_lending a_t_most a_t_row t_kept t_boundYears t_borrowing t_lending t_most t_row) [(0, .ref a_t), (1, .int v1), (2, .int v2), (3, .ref a_t_lending), (4, .int v4)] 17 []) (v2 : Int32) (v4 : Int32) (t_kept : Int32) (t_row : Nat → Int32) (hd : lpR (st_X1_keepRow t_boundYears t_borrowing t_lending t_most) n (bd_X1_keepRow_3 t_boundYears t_borrowing t_lending t_most v2 v4 t_kept t_row) = some r) : J X 0 0 (wd_X1_keepRow G a_t a_t_borrowing a_t_lending a_t_most a_t_row t_kept t_boundYears t_borrowing t_lending t_most t_row) [(0, .ref a_t), (2, .int v2), (4, .int v4)] 142 [.ref a_t_lending] := by
  unfold bd_X1_keepRow_3 at hd
  refine j_astore_n (pc := 142) (lv2 := [(0, .ref a_t), (2, .int v2), (3, .ref a_t_lending), (4, .int v4)]) C dX1_keepRow_142 rfl (by decide) [1, 2, 0, 3] rfl ?_
  refine j_aload_n (pc := 143) C dX1_keepRow_143 rfl 0 rfl ?_
  refine j_iload (pc := 144) C dX1_keepRow_144 3 rfl ?_
  obtain ⟨q20, eq20, hd⟩ := lp_bind hd
  refine j_callV (pc := 146) (q0 := 0) (ci := 1) (As := [.int v4]) (rest := []) (st2 := [.int q20]) (ws2 := wd_X1_keepRow G a_t a_t_borrowing a_t_lending a_t_most a_t_row t_kept t_boundYears t_borrowing t_lending t_most t_row) C (ct_X1_freeAgain l G a_t a_t_most a_t_row t_kept a_t_lending a_t_borrowing t_boundYears v4 q20 eq20) jy_X1_freeAgain dX1_keepRow_146 gX1_keepRow_X1_freeAgain rfl rfl (by decide) ⟨Nat.zero_le _, Nat.zero_le _⟩ [0] rfl rfl (jpt_eq rfl rfl rfl) rfl rfl rfl (Nat.le_of_ble_eq_true rfl) rfl ?_
  refine j_istore_n (pc := 149) (lv2 := [(0, .ref a_t), (1, .int q20), (2, .int v2), (3, .ref a_t_lending), (4, .int v4)]) C dX1_keepRow_149 rfl (by decide) [1, 0, 2, 3, 4] rfl ?_
  refine j_aload_n (pc := 150) C dX1_keepRow_150 rfl 0 rfl ?_
  refine j_get (pc := 151) (q0 := 0) (ci := 1) (kf := 1) C dX1_keepRow_151 in_X1_keepRow_X1 rfl (by decide) fl_X1_keepRow_15 rfl rfl ?_
  refine j_iload (pc := 154) C dX1_keepRow_154 4 rfl ?_
  refine j_iload_n (pc := 156) C dX1_keepRow_156 rfl 2 rfl ?_
  obtain ⟨h21, hd⟩ := lp_chk hd
  refine j_iast (pc := 157) (q0 := 4) (ws2 := wd_X1_keepRow G a_t a_t_borrowing a_t_lending a_t_most a_t_row t_kept t_boundYears t_borrowing t_lending t_most (upd t_row (v4).toNatClampNeg v2)) C dX1_keepRow_157 rfl h21 rfl ?_
  refine j_iinc (pc := 158) (lv2 := [(0, .ref a_t), (1, .int q20), (2, .int v2), (3, .ref a_t_lending), (4, .int (v4 + 1))]) C dX1_keepRow_158 jk_I1 (by decide) 4 rfl [1, 2, 3, 4, 0] rfl ?_
  refine j_goto (pc := 161) (tgt := 17) C dX1_keepRow_161 (by decide) ?_
  refine j_sub (lv2 := [(0, .ref a_t), (1, .int q20), (2, .int v2), (3, .ref a_t_lending), (4, .int (v4 + 1))]) [0, 1, 2, 3, 4] rfl ?_
  exact IH0 q20 v2 (v4 + 1) t_kept (upd t_row (v4).toNatClampNeg v2) hd
set_option maxHeartbeats 8000000 in
set_option maxRecDepth 100000 in
theorem lb_X1_keepRow_4 (l : Launch) (G : jG) (a_t : Nat) (a_t_borrowing : Nat) (a_t_lending : Nat) (a_t_most : Nat) (a_t_row : Nat) (t_boundYears : Int32) (t_borrowing : Nat → Int32) (t_lending : Nat → Int32) (t_most : Nat → Int32)  (X : jX) (C : jC X l G 6 rm_X1_keepRow cX1_keepRow RX1 wsX1_keepRow) (r : Int32 × (Nat → Int32)) (hE : jE X none none (wd_X1_keepRow G a_t a_t_borrowing a_t_lending a_t_most a_t_row r.1 t_boundYears t_borrowing t_lending t_most r.2)) (n : Nat) (IH1 : ∀ (v4 : Int32) (k0 : Int32) (t_kept : Int32) (t_row : Nat → Int32), lpN (st_X1_keepRow t_boundYears t_borrowing t_lending t_most) n (.inr (.inl (v4, k0, t_kept, t_row))) = some r → J X 0 0 (wd_X1_keepRow G a_t a_t_borrowing a_t_lending a_t_most a_t_row t_kept t_boundYears t_borrowing t_lending t_most t_row) [(0, .ref a_t), (4, .int v4)] 113 [.int k0]) (IH4 : ∀ (v1 : Int32) (v2 : Int32) (v4 : Int32) (t_kept : Int32) (t_row : Nat → Int32), lpN (st_X1_keepRow t_boundYears t_borrowing t_lending t_most) n (.inr (.inr (.inr (.inr ((v1, v2, v4, t_kept, t_row)))))) = some r → J X 0 0 (wd_X1_keepRow G a_t a_t_borrowing a_t_lending a_t_most a_t_row t_kept t_boundYears t_borrowing t_lending t_most t_row) [(0, .ref a_t), (1, .int v1), (2, .int v2), (3, .ref a_t_borrowing), (4, .int v4)] 17 []) (v1 : Int32) (v2 : Int32) (v4 : Int32) (t_kept : Int32) (t_row : Nat → Int32) (hd : lpR (st_X1_keepRow t_boundYears t_borrowing t_lending t_most) n (bd_X1_keepRow_4 t_boundYears t_borrowing t_lending t_most v1 v2 v4 t_kept t_row) = some r) : J X 0 0 (wd_X1_keepRow G a_t a_t_borrowing a_t_lending a_t_most a_t_row t_kept t_boundYears t_borrowing t_lending t_most t_row) [(0, .ref a_t), (1, .int v1), (2, .int v2), (3, .ref a_t_borrowing), (4, .int v4)] 17 [] := by
  unfold bd_X1_keepRow_4 at hd
  refine j_iload (pc := 17) C dX1_keepRow_17 4 rfl ?_
  refine j_bipush (pc := 19) (v := 60) C dX1_keepRow_19 jk_B60 ?_
  refine j_icmp_ge (pc := 21) (tgt := 164) C dX1_keepRow_21 (by decide) (fun c22 => ?_) (fun c22 => ?_)
  · have hd := lp_pos c22 hd
    obtain rfl := Option.some.inj hd
    exact j_vret (pc := 164) C hE dX1_keepRow_164 rfl rfl
  · have hd := lp_neg c22 hd
    refine j_iload (pc := 24) C dX1_keepRow_24 4 rfl ?_
    refine j_iload_n (pc := 26) C dX1_keepRow_26 rfl 1 rfl ?_
    refine j_icmp_ge (pc := 27) (tgt := 58) C dX1_keepRow_27 (by decide) (fun c23 => ?_) (fun c23 => ?_)
    · have hd := lp_pos c23 hd
      refine j_aload_n (pc := 58) C dX1_keepRow_58 rfl 0 rfl ?_
      refine j_get (pc := 59) (q0 := 0) (ci := 1) (kf := 0) C dX1_keepRow_59 in_X1_keepRow_X1 rfl (by decide) fl_X1_keepRow_9 rfl rfl ?_
      refine j_iload (pc := 62) C dX1_keepRow_62 4 rfl ?_
      obtain ⟨h24, hd⟩ := lp_chk hd
      refine j_iald (pc := 64) (q0 := 3) C dX1_keepRow_64 rfl h24 ?_
      refine j_aload_n (pc := 65) C dX1_keepRow_65 rfl 0 rfl ?_
      refine j_get (pc := 66) (q0 := 0) (ci := 1) (kf := 0) C dX1_keepRow_66 in_X1_keepRow_X1 rfl (by decide) fl_X1_keepRow_9 rfl rfl ?_
      refine j_iload (pc := 69) C dX1_keepRow_69 4 rfl ?_
      refine j_iconst (pc := 71) (v := 1) C dX1_keepRow_71 jk_I1 ?_
      refine j_iadd (pc := 72) C dX1_keepRow_72 ?_
      obtain ⟨h25, hd⟩ := lp_chk hd
      refine j_iald (pc := 73) (q0 := 3) C dX1_keepRow_73 rfl h25 ?_
      refine j_icmp_ne (pc := 74) (tgt := 88) C dX1_keepRow_74 (by decide) (fun c26 => ?_) (fun c26 => ?_)
      · have hd := lp_neg c26 hd
        refine j_aload_n (pc := 88) C dX1_keepRow_88 rfl 0 rfl ?_
        refine j_get (pc := 89) (q0 := 0) (ci := 1) (kf := 0) C dX1_keepRow_89 in_X1_keepRow_X1 rfl (by decide) fl_X1_keepRow_9 rfl rfl ?_
        refine j_iload (pc := 92) C dX1_keepRow_92 4 rfl ?_
        obtain ⟨h27, hd⟩ := lp_chk hd
        refine j_iald (pc := 94) (q0 := 3) C dX1_keepRow_94 rfl h27 ?_
        refine j_aload_n (pc := 95) C dX1_keepRow_95 rfl 0 rfl ?_
        refine j_aload_n (pc := 96) C dX1_keepRow_96 rfl 0 rfl ?_
        refine j_get (pc := 97) (q0 := 0) (ci := 1) (kf := 3) C dX1_keepRow_97 in_X1_keepRow_X1 rfl (by decide) fl_X1_keepRow_22 rfl rfl ?_
        refine j_iload (pc := 100) C dX1_keepRow_100 4 rfl ?_
        obtain ⟨q28, eq28, hd⟩ := lp_bind hd
        refine j_callV (pc := 102) (q0 := 0) (ci := 1) (As := [.ref a_t_lending, .int v4]) (rest := [.int (t_most (v4).toNatClampNeg)]) (st2 := [.int q28, .int (t_most (v4).toNatClampNeg)]) (ws2 := wd_X1_keepRow G a_t a_t_borrowing a_t_lending a_t_most a_t_row t_kept t_boundYears t_borrowing t_lending t_most t_row) C (ct_X1_byBinding l G a_t a_t_most a_t_lending a_t_row t_kept a_t_lending a_t_borrowing t_boundYears t_most t_lending v4 q28 eq28) jy_X1_byBinding dX1_keepRow_102 gX1_keepRow_X1_byBinding rfl rfl (by decide) ⟨Nat.zero_le _, Nat.zero_le _⟩ [0, 3, 2] rfl rfl (jpt_eq rfl rfl rfl) rfl rfl rfl (Nat.le_of_ble_eq_true rfl) rfl ?_
        refine j_icmp_ne (pc := 105) (tgt := 112) C dX1_keepRow_105 (by decide) (fun c29 => ?_) (fun c29 => ?_)
        · have hd := lp_neg c29 hd
          refine j_iconst (pc := 112) (v := 0) C dX1_keepRow_112 jk_I0 ?_
          refine j_sub (lv2 := [(0, .ref a_t), (4, .int v4)]) [0, 4] rfl ?_
          exact IH1 v4 0 t_kept t_row hd
        · have hd := lp_pos c29 hd
          refine j_iconst (pc := 108) (v := 1) C dX1_keepRow_108 jk_I1 ?_
          refine j_goto (pc := 109) (tgt := 113) C dX1_keepRow_109 (by decide) ?_
          refine j_sub (lv2 := [(0, .ref a_t), (4, .int v4)]) [0, 4] rfl ?_
          exact IH1 v4 1 t_kept t_row hd
      · have hd := lp_pos c26 hd
        refine j_aload_n (pc := 77) C dX1_keepRow_77 rfl 0 rfl ?_
        refine j_get (pc := 78) (q0 := 0) (ci := 1) (kf := 1) C dX1_keepRow_78 in_X1_keepRow_X1 rfl (by decide) fl_X1_keepRow_15 rfl rfl ?_
        refine j_iload (pc := 81) C dX1_keepRow_81 4 rfl ?_
        refine j_iconst (pc := 83) (v := 0) C dX1_keepRow_83 jk_I0 ?_
        obtain ⟨h30, hd⟩ := lp_chk hd
        refine j_iast (pc := 84) (q0 := 4) (ws2 := wd_X1_keepRow G a_t a_t_borrowing a_t_lending a_t_most a_t_row t_kept t_boundYears t_borrowing t_lending t_most (upd t_row (v4).toNatClampNeg 0)) C dX1_keepRow_84 rfl h30 rfl ?_
        refine j_goto (pc := 85) (tgt := 158) C dX1_keepRow_85 (by decide) ?_
        refine j_iinc (pc := 158) (lv2 := [(0, .ref a_t), (1, .int v1), (2, .int v2), (3, .ref a_t_borrowing), (4, .int (v4 + 1))]) C dX1_keepRow_158 jk_I1 (by decide) 4 rfl [1, 2, 3, 4, 0] rfl ?_
        refine j_goto (pc := 161) (tgt := 17) C dX1_keepRow_161 (by decide) ?_
        refine j_sub (lv2 := [(0, .ref a_t), (1, .int v1), (2, .int v2), (3, .ref a_t_borrowing), (4, .int (v4 + 1))]) [0, 1, 2, 3, 4] rfl ?_
        exact IH4 v1 v2 (v4 + 1) t_kept (upd t_row (v4).toNatClampNeg 0) hd
    · have hd := lp_neg c23 hd
      refine j_aload_n (pc := 30) C dX1_keepRow_30 rfl 0 rfl ?_
      refine j_get (pc := 31) (q0 := 0) (ci := 1) (kf := 1) C dX1_keepRow_31 in_X1_keepRow_X1 rfl (by decide) fl_X1_keepRow_15 rfl rfl ?_
      refine j_iload (pc := 34) C dX1_keepRow_34 4 rfl ?_
      refine j_aload_n (pc := 36) C dX1_keepRow_36 rfl 3 rfl ?_
      refine j_iload (pc := 37) C dX1_keepRow_37 4 rfl ?_
      refine j_iconst (pc := 39) (v := 1) C dX1_keepRow_39 jk_I1 ?_
      refine j_iadd (pc := 40) C dX1_keepRow_40 ?_
      obtain ⟨h31, hd⟩ := lp_chk hd
      refine j_iald (pc := 41) (q0 := 1) C dX1_keepRow_41 rfl h31 ?_
      refine j_aload_n (pc := 42) C dX1_keepRow_42 rfl 3 rfl ?_
      refine j_iload (pc := 43) C dX1_keepRow_43 4 rfl ?_
      obtain ⟨h32, hd⟩ := lp_chk hd
      refine j_iald (pc := 45) (q0 := 1) C dX1_keepRow_45 rfl h32 ?_
      refine j_icmp_le (pc := 46) (tgt := 53) C dX1_keepRow_46 (by decide) (fun c33 => ?_) (fun c33 => ?_)
      · have hd := lp_pos c33 hd
        refine j_iconst (pc := 53) (v := 0) C dX1_keepRow_53 jk_I0 ?_
        obtain ⟨h34, hd⟩ := lp_chk hd
        refine j_iast (pc := 54) (q0 := 4) (ws2 := wd_X1_keepRow G a_t a_t_borrowing a_t_lending a_t_most a_t_row t_kept t_boundYears t_borrowing t_lending t_most (upd t_row (v4).toNatClampNeg 0)) C dX1_keepRow_54 rfl h34 rfl ?_
        refine j_goto (pc := 55) (tgt := 158) C dX1_keepRow_55 (by decide) ?_
        refine j_iinc (pc := 158) (lv2 := [(0, .ref a_t), (1, .int v1), (2, .int v2), (3, .ref a_t_borrowing), (4, .int (v4 + 1))]) C dX1_keepRow_158 jk_I1 (by decide) 4 rfl [1, 2, 3, 4, 0] rfl ?_
        refine j_goto (pc := 161) (tgt := 17) C dX1_keepRow_161 (by decide) ?_
        refine j_sub (lv2 := [(0, .ref a_t), (1, .int v1), (2, .int v2), (3, .ref a_t_borrowing), (4, .int (v4 + 1))]) [0, 1, 2, 3, 4] rfl ?_
        exact IH4 v1 v2 (v4 + 1) t_kept (upd t_row (v4).toNatClampNeg 0) hd
      · have hd := lp_neg c33 hd
        refine j_iload_n (pc := 49) C dX1_keepRow_49 rfl 2 rfl ?_
        refine j_goto (pc := 50) (tgt := 54) C dX1_keepRow_50 (by decide) ?_
        obtain ⟨h35, hd⟩ := lp_chk hd
        refine j_iast (pc := 54) (q0 := 4) (ws2 := wd_X1_keepRow G a_t a_t_borrowing a_t_lending a_t_most a_t_row t_kept t_boundYears t_borrowing t_lending t_most (upd t_row (v4).toNatClampNeg v2)) C dX1_keepRow_54 rfl h35 rfl ?_
        refine j_goto (pc := 55) (tgt := 158) C dX1_keepRow_55 (by decide) ?_
        refine j_iinc (pc := 158) (lv2 := [(0, .ref a_t), (1, .int v1), (2, .int v2), (3, .ref a_t_borrowing), (4, .int (v4 + 1))]) C dX1_keepRow_158 jk_I1 (by decide) 4 rfl [1, 2, 3, 4, 0] rfl ?_
        refine j_goto (pc := 161) (tgt := 17) C dX1_keepRow_161 (by decide) ?_
        refine j_sub (lv2 := [(0, .ref a_t), (1, .int v1), (2, .int v2), (3, .ref a_t_borrowing), (4, .int (v4 + 1))]) [0, 1, 2, 3, 4] rfl ?_
        exact IH4 v1 v2 (v4 + 1) t_kept (upd t_row (v4).toNatClampNeg v2) hd
set_option maxHeartbeats 8000000 in
set_option maxRecDepth 100000 in
theorem la_X1_keepRow (l : Launch) (G : jG) (a_t : Nat) (a_t_borrowing : Nat) (a_t_lending : Nat) (a_t_most : Nat) (a_t_row : Nat) (t_boundYears : Int32) (t_borrowing : Nat → Int32) (t_lending : Nat → Int32) (t_most : Nat → Int32)  (X : jX) (C : jC X l G 6 rm_X1_keepRow cX1_keepRow RX1 wsX1_keepRow) (r : Int32 × (Nat → Int32)) (hE : jE X none none (wd_X1_keepRow G a_t a_t_borrowing a_t_lending a_t_most a_t_row r.1 t_boundYears t_borrowing t_lending t_most r.2)) (n : Nat) : (∀ (v1 : Int32) (v2 : Int32) (v4 : Int32) (t_kept : Int32) (t_row : Nat → Int32), lpN (st_X1_keepRow t_boundYears t_borrowing t_lending t_most) n (.inl (v1, v2, v4, t_kept, t_row)) = some r → J X 0 0 (wd_X1_keepRow G a_t a_t_borrowing a_t_lending a_t_most a_t_row t_kept t_boundYears t_borrowing t_lending t_most t_row) [(0, .ref a_t), (1, .int v1), (2, .int v2), (3, .ref a_t_lending), (4, .int v4)] 17 []) ∧ (∀ (v4 : Int32) (k0 : Int32) (t_kept : Int32) (t_row : Nat → Int32), lpN (st_X1_keepRow t_boundYears t_borrowing t_lending t_most) n (.inr (.inl (v4, k0, t_kept, t_row))) = some r → J X 0 0 (wd_X1_keepRow G a_t a_t_borrowing a_t_lending a_t_most a_t_row t_kept t_boundYears t_borrowing t_lending t_most t_row) [(0, .ref a_t), (4, .int v4)] 113 [.int k0]) ∧ (∀ (v2 : Int32) (v4 : Int32) (t_kept : Int32) (t_row : Nat → Int32), lpN (st_X1_keepRow t_boundYears t_borrowing t_lending t_most) n (.inr (.inr (.inl (v2, v4, t_kept, t_row)))) = some r → J X 0 0 (wd_X1_keepRow G a_t a_t_borrowing a_t_lending a_t_most a_t_row t_kept t_boundYears t_borrowing t_lending t_most t_row) [(0, .ref a_t), (2, .int v2), (4, .int v4)] 142 [.ref a_t_borrowing]) ∧ (∀ (v2 : Int32) (v4 : Int32) (t_kept : Int32) (t_row : Nat → Int32), lpN (st_X1_keepRow t_boundYears t_borrowing t_lending t_most) n (.inr (.inr (.inr (.inl (v2, v4, t_kept, t_row))))) = some r → J X 0 0 (wd_X1_keepRow G a_t a_t_borrowing a_t_lending a_t_most a_t_row t_kept t_boundYears t_borrowing t_lending t_most t_row) [(0, .ref a_t), (2, .int v2), (4, .int v4)] 142 [.ref a_t_lending]) ∧ (∀ (v1 : Int32) (v2 : Int32) (v4 : Int32) (t_kept : Int32) (t_row : Nat → Int32), lpN (st_X1_keepRow t_boundYears t_borrowing t_lending t_most) n (.inr (.inr (.inr (.inr ((v1, v2, v4, t_kept, t_row)))))) = some r → J X 0 0 (wd_X1_keepRow G a_t a_t_borrowing a_t_lending a_t_most a_t_row t_kept t_boundYears t_borrowing t_lending t_most t_row) [(0, .ref a_t), (1, .int v1), (2, .int v2), (3, .ref a_t_borrowing), (4, .int v4)] 17 []) := by
  induction n with
  | zero => exact ⟨(fun v1 v2 v4 t_kept t_row h => by cases h), (fun v4 k0 t_kept t_row h => by cases h), (fun v2 v4 t_kept t_row h => by cases h), (fun v2 v4 t_kept t_row h => by cases h), (fun v1 v2 v4 t_kept t_row h => by cases h)⟩
  | succ n ih => exact ⟨(fun v1 v2 v4 t_kept t_row h => lb_X1_keepRow_0 l G a_t a_t_borrowing a_t_lending a_t_most a_t_row t_boundYears t_borrowing t_lending t_most X C r hE n (ih.1) (ih.2.1) v1 v2 v4 t_kept t_row (by rw [lpN_succ] at h; exact h)), (fun v4 k0 t_kept t_row h => lb_X1_keepRow_1 l G a_t a_t_borrowing a_t_lending a_t_most a_t_row t_boundYears t_borrowing t_lending t_most X C r hE n (ih.2.2.1) (ih.2.2.2.1) v4 k0 t_kept t_row (by rw [lpN_succ] at h; exact h)), (fun v2 v4 t_kept t_row h => lb_X1_keepRow_2 l G a_t a_t_borrowing a_t_lending a_t_most a_t_row t_boundYears t_borrowing t_lending t_most X C r hE n (ih.2.2.2.2) v2 v4 t_kept t_row (by rw [lpN_succ] at h; exact h)), (fun v2 v4 t_kept t_row h => lb_X1_keepRow_3 l G a_t a_t_borrowing a_t_lending a_t_most a_t_row t_boundYears t_borrowing t_lending t_most X C r hE n (ih.1) v2 v4 t_kept t_row (by rw [lpN_succ] at h; exact h)), (fun v1 v2 v4 t_kept t_row h => lb_X1_keepRow_4 l G a_t a_t_borrowing a_t_lending a_t_most a_t_row t_boundYears t_borrowing t_lending t_most X C r hE n (ih.2.1) (ih.2.2.2.2) v1 v2 v4 t_kept t_row (by rw [lpN_succ] at h; exact h))⟩
set_option maxHeartbeats 8000000 in
set_option maxRecDepth 100000 in
theorem ct_X1_keepRow (l : Launch) (G : jG) (a_t : Nat) (a_t_borrowing : Nat) (a_t_lending : Nat) (a_t_most : Nat) (a_t_row : Nat) (t_kept : Int32) (t_boundYears : Int32) (t_borrowing : Nat → Int32) (t_lending : Nat → Int32) (t_most : Nat → Int32) (t_row : Nat → Int32)  (r : Int32 × (Nat → Int32)) (hd : dn_X1_keepRow t_boundYears t_borrowing t_lending t_most t_row = some r) : jM l G yX1_keepRow wsX1_keepRow rm_X1_keepRow [.ref a_t] (wd_X1_keepRow G a_t a_t_borrowing a_t_lending a_t_most a_t_row t_kept t_boundYears t_borrowing t_lending t_most t_row) none (wd_X1_keepRow G a_t a_t_borrowing a_t_lending a_t_most a_t_row r.1 t_boundYears t_borrowing t_lending t_most r.2) := by
  refine jM_of (own := RX1) (by decide) rfl rfl rfl (Nat.le_of_ble_eq_true rfl) (lv0 := [(0, .ref a_t)]) rfl (fun X C hE => ?_)
  unfold dn_X1_keepRow at hd
  refine j_aload_n (pc := 0) C dX1_keepRow_0 rfl 0 rfl ?_
  refine j_iconst (pc := 1) (v := 1) C dX1_keepRow_1 jk_I1 ?_
  refine j_put (pc := 2) (q0 := 0) (ci := 1) (kf := 2) (ws2 := wd_X1_keepRow G a_t a_t_borrowing a_t_lending a_t_most a_t_row 1 t_boundYears t_borrowing t_lending t_most t_row) C dX1_keepRow_2 in_X1_keepRow_X1 tyX1 tyX1_ok nmX1 rfl (by decide) fl_X1_keepRow_18 rfl rfl rfl rfl (Nat.le_of_ble_eq_true rfl) rfl ?_
  refine j_iconst (pc := 5) (v := 0) C dX1_keepRow_5 jk_I0 ?_
  refine j_istore_n (pc := 6) (lv2 := [(0, .ref a_t), (1, .int 0)]) C dX1_keepRow_6 rfl (by decide) [1, 0] rfl ?_
  refine j_iconst (pc := 7) (v := 0) C dX1_keepRow_7 jk_I0 ?_
  refine j_istore_n (pc := 8) (lv2 := [(0, .ref a_t), (1, .int 0), (2, .int 0)]) C dX1_keepRow_8 rfl (by decide) [1, 2, 0] rfl ?_
  refine j_aload_n (pc := 9) C dX1_keepRow_9 rfl 0 rfl ?_
  refine j_get (pc := 10) (q0 := 0) (ci := 1) (kf := 3) C dX1_keepRow_10 in_X1_keepRow_X1 rfl (by decide) fl_X1_keepRow_22 rfl rfl ?_
  refine j_astore_n (pc := 13) (lv2 := [(0, .ref a_t), (1, .int 0), (2, .int 0), (3, .ref a_t_lending)]) C dX1_keepRow_13 rfl (by decide) [1, 2, 3, 0] rfl ?_
  refine j_iconst (pc := 14) (v := 0) C dX1_keepRow_14 jk_I0 ?_
  refine j_istore (pc := 15) (lv2 := [(0, .ref a_t), (1, .int 0), (2, .int 0), (3, .ref a_t_lending), (4, .int 0)]) C dX1_keepRow_15 (by decide) [1, 2, 3, 4, 0] rfl ?_
  refine j_sub (lv2 := [(0, .ref a_t), (1, .int 0), (2, .int 0), (3, .ref a_t_lending), (4, .int 0)]) [0, 1, 2, 3, 4] rfl ?_
  obtain ⟨n, hn⟩ := lpC_ex hd
  exact (la_X1_keepRow l G a_t a_t_borrowing a_t_lending a_t_most a_t_row t_boundYears t_borrowing t_lending t_most X C r hE n).1 0 0 0 1 t_row hn
/-! ##### java/lang/Integer.bitCount(I)I -/
abbrev rm_J6_bitCount_0f7a4 : Room := { frames := 0, cells := 0, slots := 0, locals := 0 }
theorem jy_J6_bitCount_0f7a4 : jY yJ6_bitCount_0f7a4 wsJ6_bitCount_0f7a4 rm_J6_bitCount_0f7a4 cJ6_bitCount_0f7a4 1 (some .int) 1 := ⟨⟨_, rfl⟩, ⟨rfl, rfl⟩, by decide, by decide, by decide +kernel⟩
def wd_J6_bitCount_0f7a4 (G : jG)  : va_W := []
set_option maxHeartbeats 8000000 in
set_option maxRecDepth 100000 in
theorem ct_J6_bitCount_0f7a4 (l : Launch) (G : jG)  (p1 : Int32) (r : Int32) (hd : dn_J6_bitCount_0f7a4 p1 = some r) : jM l G yJ6_bitCount_0f7a4 wsJ6_bitCount_0f7a4 rm_J6_bitCount_0f7a4 [.int p1] (wd_J6_bitCount_0f7a4 G) (some (.int r)) (wd_J6_bitCount_0f7a4 G) := by
  refine jM_of (own := RJ6) (by decide) rfl rfl rfl (Nat.le_of_ble_eq_true rfl) (lv0 := [(0, .int p1)]) rfl (fun X C hE => ?_)
  unfold dn_J6_bitCount_0f7a4 at hd
  refine j_iload_n (pc := 0) C dJ6_bitCount_0f7a4_0 rfl 0 rfl ?_
  refine j_iload_n (pc := 1) C dJ6_bitCount_0f7a4_1 rfl 0 rfl ?_
  refine j_iconst (pc := 2) (v := 1) C dJ6_bitCount_0f7a4_2 jk_I1 ?_
  refine j_iushr (pc := 3) C dJ6_bitCount_0f7a4_3 ?_
  refine j_ldcw (pc := 4) (v := 1431655765) C dJ6_bitCount_0f7a4_4 (List.mem_of_getElem? (i := 1) rfl) ?_
  refine j_iand (pc := 7) C dJ6_bitCount_0f7a4_7 ?_
  refine j_isub (pc := 8) C dJ6_bitCount_0f7a4_8 ?_
  refine j_istore_n (pc := 9) (lv2 := [(0, .int (p1 - (((p1.toUInt32 >>> ((1 : Int32).toUInt32 &&& Int32.toUInt32 31)).toInt32) &&& 1431655765)))]) C dJ6_bitCount_0f7a4_9 rfl (by decide) [0] rfl ?_
  refine j_iload_n (pc := 10) C dJ6_bitCount_0f7a4_10 rfl 0 rfl ?_
  refine j_ldcw (pc := 11) (v := 858993459) C dJ6_bitCount_0f7a4_11 (List.mem_of_getElem? (i := 2) rfl) ?_
  refine j_iand (pc := 14) C dJ6_bitCount_0f7a4_14 ?_
  refine j_iload_n (pc := 15) C dJ6_bitCount_0f7a4_15 rfl 0 rfl ?_
  refine j_iconst (pc := 16) (v := 2) C dJ6_bitCount_0f7a4_16 jk_I2 ?_
  refine j_iushr (pc := 17) C dJ6_bitCount_0f7a4_17 ?_
  refine j_ldcw (pc := 18) (v := 858993459) C dJ6_bitCount_0f7a4_18 (List.mem_of_getElem? (i := 2) rfl) ?_
  refine j_iand (pc := 21) C dJ6_bitCount_0f7a4_21 ?_
  refine j_iadd (pc := 22) C dJ6_bitCount_0f7a4_22 ?_
  refine j_istore_n (pc := 23) (lv2 := [(0, .int (((p1 - (((p1.toUInt32 >>> ((1 : Int32).toUInt32 &&& Int32.toUInt32 31)).toInt32) &&& 1431655765)) &&& 858993459) + ((((p1 - (((p1.toUInt32 >>> ((1 : Int32).toUInt32 &&& Int32.toUInt32 31)).toInt32) &&& 1431655765)).toUInt32 >>> ((2 : Int32).toUInt32 &&& Int32.toUInt32 31)).toInt32) &&& 858993459)))]) C dJ6_bitCount_0f7a4_23 rfl (by decide) [0] rfl ?_
  refine j_iload_n (pc := 24) C dJ6_bitCount_0f7a4_24 rfl 0 rfl ?_
  refine j_iload_n (pc := 25) C dJ6_bitCount_0f7a4_25 rfl 0 rfl ?_
  refine j_iconst (pc := 26) (v := 4) C dJ6_bitCount_0f7a4_26 jk_I4 ?_
  refine j_iushr (pc := 27) C dJ6_bitCount_0f7a4_27 ?_
  refine j_iadd (pc := 28) C dJ6_bitCount_0f7a4_28 ?_
  refine j_ldcw (pc := 29) (v := 252645135) C dJ6_bitCount_0f7a4_29 (List.mem_of_getElem? (i := 3) rfl) ?_
  refine j_iand (pc := 32) C dJ6_bitCount_0f7a4_32 ?_
  refine j_istore_n (pc := 33) (lv2 := [(0, .int (((((p1 - (((p1.toUInt32 >>> ((1 : Int32).toUInt32 &&& Int32.toUInt32 31)).toInt32) &&& 1431655765)) &&& 858993459) + ((((p1 - (((p1.toUInt32 >>> ((1 : Int32).toUInt32 &&& Int32.toUInt32 31)).toInt32) &&& 1431655765)).toUInt32 >>> ((2 : Int32).toUInt32 &&& Int32.toUInt32 31)).toInt32) &&& 858993459)) + (((((p1 - (((p1.toUInt32 >>> ((1 : Int32).toUInt32 &&& Int32.toUInt32 31)).toInt32) &&& 1431655765)) &&& 858993459) + ((((p1 - (((p1.toUInt32 >>> ((1 : Int32).toUInt32 &&& Int32.toUInt32 31)).toInt32) &&& 1431655765)).toUInt32 >>> ((2 : Int32).toUInt32 &&& Int32.toUInt32 31)).toInt32) &&& 858993459)).toUInt32 >>> ((4 : Int32).toUInt32 &&& Int32.toUInt32 31)).toInt32)) &&& 252645135))]) C dJ6_bitCount_0f7a4_33 rfl (by decide) [0] rfl ?_
  refine j_iload_n (pc := 34) C dJ6_bitCount_0f7a4_34 rfl 0 rfl ?_
  refine j_iload_n (pc := 35) C dJ6_bitCount_0f7a4_35 rfl 0 rfl ?_
  refine j_bipush (pc := 36) (v := 8) C dJ6_bitCount_0f7a4_36 jk_B8 ?_
  refine j_iushr (pc := 38) C dJ6_bitCount_0f7a4_38 ?_
  refine j_iadd (pc := 39) C dJ6_bitCount_0f7a4_39 ?_
  refine j_istore_n (pc := 40) (lv2 := [(0, .int ((((((p1 - (((p1.toUInt32 >>> ((1 : Int32).toUInt32 &&& Int32.toUInt32 31)).toInt32) &&& 1431655765)) &&& 858993459) + ((((p1 - (((p1.toUInt32 >>> ((1 : Int32).toUInt32 &&& Int32.toUInt32 31)).toInt32) &&& 1431655765)).toUInt32 >>> ((2 : Int32).toUInt32 &&& Int32.toUInt32 31)).toInt32) &&& 858993459)) + (((((p1 - (((p1.toUInt32 >>> ((1 : Int32).toUInt32 &&& Int32.toUInt32 31)).toInt32) &&& 1431655765)) &&& 858993459) + ((((p1 - (((p1.toUInt32 >>> ((1 : Int32).toUInt32 &&& Int32.toUInt32 31)).toInt32) &&& 1431655765)).toUInt32 >>> ((2 : Int32).toUInt32 &&& Int32.toUInt32 31)).toInt32) &&& 858993459)).toUInt32 >>> ((4 : Int32).toUInt32 &&& Int32.toUInt32 31)).toInt32)) &&& 252645135) + (((((((p1 - (((p1.toUInt32 >>> ((1 : Int32).toUInt32 &&& Int32.toUInt32 31)).toInt32) &&& 1431655765)) &&& 858993459) + ((((p1 - (((p1.toUInt32 >>> ((1 : Int32).toUInt32 &&& Int32.toUInt32 31)).toInt32) &&& 1431655765)).toUInt32 >>> ((2 : Int32).toUInt32 &&& Int32.toUInt32 31)).toInt32) &&& 858993459)) + (((((p1 - (((p1.toUInt32 >>> ((1 : Int32).toUInt32 &&& Int32.toUInt32 31)).toInt32) &&& 1431655765)) &&& 858993459) + ((((p1 - (((p1.toUInt32 >>> ((1 : Int32).toUInt32 &&& Int32.toUInt32 31)).toInt32) &&& 1431655765)).toUInt32 >>> ((2 : Int32).toUInt32 &&& Int32.toUInt32 31)).toInt32) &&& 858993459)).toUInt32 >>> ((4 : Int32).toUInt32 &&& Int32.toUInt32 31)).toInt32)) &&& 252645135).toUInt32 >>> ((8 : Int32).toUInt32 &&& Int32.toUInt32 31)).toInt32)))]) C dJ6_bitCount_0f7a4_40 rfl (by decide) [0] rfl ?_
  refine j_iload_n (pc := 41) C dJ6_bitCount_0f7a4_41 rfl 0 rfl ?_
  refine j_iload_n (pc := 42) C dJ6_bitCount_0f7a4_42 rfl 0 rfl ?_
  refine j_bipush (pc := 43) (v := 16) C dJ6_bitCount_0f7a4_43 jk_B16 ?_
  refine j_iushr (pc := 45) C dJ6_bitCount_0f7a4_45 ?_
  refine j_iadd (pc := 46) C dJ6_bitCount_0f7a4_46 ?_
  refine j_istore_n (pc := 47) (lv2 := [(0, .int (((((((p1 - (((p1.toUInt32 >>> ((1 : Int32).toUInt32 &&& Int32.toUInt32 31)).toInt32) &&& 1431655765)) &&& 858993459) + ((((p1 - (((p1.toUInt32 >>> ((1 : Int32).toUInt32 &&& Int32.toUInt32 31)).toInt32) &&& 1431655765)).toUInt32 >>> ((2 : Int32).toUInt32 &&& Int32.toUInt32 31)).toInt32) &&& 858993459)) + (((((p1 - (((p1.toUInt32 >>> ((1 : Int32).toUInt32 &&& Int32.toUInt32 31)).toInt32) &&& 1431655765)) &&& 858993459) + ((((p1 - (((p1.toUInt32 >>> ((1 : Int32).toUInt32 &&& Int32.toUInt32 31)).toInt32) &&& 1431655765)).toUInt32 >>> ((2 : Int32).toUInt32 &&& Int32.toUInt32 31)).toInt32) &&& 858993459)).toUInt32 >>> ((4 : Int32).toUInt32 &&& Int32.toUInt32 31)).toInt32)) &&& 252645135) + (((((((p1 - (((p1.toUInt32 >>> ((1 : Int32).toUInt32 &&& Int32.toUInt32 31)).toInt32) &&& 1431655765)) &&& 858993459) + ((((p1 - (((p1.toUInt32 >>> ((1 : Int32).toUInt32 &&& Int32.toUInt32 31)).toInt32) &&& 1431655765)).toUInt32 >>> ((2 : Int32).toUInt32 &&& Int32.toUInt32 31)).toInt32) &&& 858993459)) + (((((p1 - (((p1.toUInt32 >>> ((1 : Int32).toUInt32 &&& Int32.toUInt32 31)).toInt32) &&& 1431655765)) &&& 858993459) + ((((p1 - (((p1.toUInt32 >>> ((1 : Int32).toUInt32 &&& Int32.toUInt32 31)).toInt32) &&& 1431655765)).toUInt32 >>> ((2 : Int32).toUInt32 &&& Int32.toUInt32 31)).toInt32) &&& 858993459)).toUInt32 >>> ((4 : Int32).toUInt32 &&& Int32.toUInt32 31)).toInt32)) &&& 252645135).toUInt32 >>> ((8 : Int32).toUInt32 &&& Int32.toUInt32 31)).toInt32)) + ((((((((p1 - (((p1.toUInt32 >>> ((1 : Int32).toUInt32 &&& Int32.toUInt32 31)).toInt32) &&& 1431655765)) &&& 858993459) + ((((p1 - (((p1.toUInt32 >>> ((1 : Int32).toUInt32 &&& Int32.toUInt32 31)).toInt32) &&& 1431655765)).toUInt32 >>> ((2 : Int32).toUInt32 &&& Int32.toUInt32 31)).toInt32) &&& 858993459)) + (((((p1 - (((p1.toUInt32 >>> ((1 : Int32).toUInt32 &&& Int32.toUInt32 31)).toInt32) &&& 1431655765)) &&& 858993459) + ((((p1 - (((p1.toUInt32 >>> ((1 : Int32).toUInt32 &&& Int32.toUInt32 31)).toInt32) &&& 1431655765)).toUInt32 >>> ((2 : Int32).toUInt32 &&& Int32.toUInt32 31)).toInt32) &&& 858993459)).toUInt32 >>> ((4 : Int32).toUInt32 &&& Int32.toUInt32 31)).toInt32)) &&& 252645135) + (((((((p1 - (((p1.toUInt32 >>> ((1 : Int32).toUInt32 &&& Int32.toUInt32 31)).toInt32) &&& 1431655765)) &&& 858993459) + ((((p1 - (((p1.toUInt32 >>> ((1 : Int32).toUInt32 &&& Int32.toUInt32 31)).toInt32) &&& 1431655765)).toUInt32 >>> ((2 : Int32).toUInt32 &&& Int32.toUInt32 31)).toInt32) &&& 858993459)) + (((((p1 - (((p1.toUInt32 >>> ((1 : Int32).toUInt32 &&& Int32.toUInt32 31)).toInt32) &&& 1431655765)) &&& 858993459) + ((((p1 - (((p1.toUInt32 >>> ((1 : Int32).toUInt32 &&& Int32.toUInt32 31)).toInt32) &&& 1431655765)).toUInt32 >>> ((2 : Int32).toUInt32 &&& Int32.toUInt32 31)).toInt32) &&& 858993459)).toUInt32 >>> ((4 : Int32).toUInt32 &&& Int32.toUInt32 31)).toInt32)) &&& 252645135).toUInt32 >>> ((8 : Int32).toUInt32 &&& Int32.toUInt32 31)).toInt32)).toUInt32 >>> ((16 : Int32).toUInt32 &&& Int32.toUInt32 31)).toInt32)))]) C dJ6_bitCount_0f7a4_47 rfl (by decide) [0] rfl ?_
  refine j_iload_n (pc := 48) C dJ6_bitCount_0f7a4_48 rfl 0 rfl ?_
  refine j_bipush (pc := 49) (v := 63) C dJ6_bitCount_0f7a4_49 jk_B63 ?_
  refine j_iand (pc := 51) C dJ6_bitCount_0f7a4_51 ?_
  obtain rfl := Option.some.inj hd
  exact j_iret (pc := 52) C hE dJ6_bitCount_0f7a4_52 rfl rfl
/-! ##### LendTown$Rounds.behindOne(LLendTown$Town;I)I -/
abbrev rm_X7_behindOne : Room := { frames := 3, cells := 0, slots := 0, locals := 70 }
theorem jy_X7_behindOne : jY yX7_behindOne wsX7_behindOne rm_X7_behindOne cX7_behindOne 4 (some .int) 2 := ⟨⟨_, rfl⟩, ⟨rfl, rfl⟩, by decide, by decide, by decide +kernel⟩
theorem in_X7_behindOne_X10 : ∀ w ∈ u_ws RX10 TX10 17, w ∈ wsX7_behindOne := fun w h => List.mem_cons_of_mem _ (List.mem_append_right _ (h))
theorem fl_X7_behindOne_36 : Cond.fieldLink RX7 36 "LendTown$Town" "persons" "I" ∈ wsX7_behindOne := List.mem_of_getElem? (i := 1) rfl
def wd_X7_behindOne (G : jG) (a_p1 : Nat) (a_p1_borrower : Nat) (a_p1_borrowerGain : Nat) (a_p1_either : Nat) (a_p1_lender : Nat) (a_p1_lenderGain : Nat) (p1_persons : Int32) (p1_deals : Int32) (p1_lawYears : Int32) (p1_toldParts : Int32) (a_p1_personNames : Nat) (a_p1_born : Nat) (a_p1_dies : Nat) (a_p1_limit : Nat) (a_p1_dealNames : Nat) (a_p1_year : Nat) (a_p1_byYear : Nat) (a_p1_memo : Nat) (p1_borrower : Nat → Int32) (p1_borrowerGain : Nat → Int32) (p1_either : Nat → Int32) (p1_lender : Nat → Int32) (p1_lenderGain : Nat → Int32) : va_W := [(a_p1, .inr (10, [.int p1_persons, .int p1_deals, .int p1_lawYears, .int p1_toldParts, .ref a_p1_personNames, .ref a_p1_born, .ref a_p1_dies, .ref a_p1_limit, .ref a_p1_dealNames, .ref a_p1_lender, .ref a_p1_borrower, .ref a_p1_year, .ref a_p1_lenderGain, .ref a_p1_borrowerGain, .ref a_p1_either, .ref a_p1_byYear, .ref a_p1_memo])), (a_p1_borrower, .inl (G.2.2.1, 30, .inl p1_borrower)), (a_p1_borrowerGain, .inl (G.2.2.1, 30, .inl p1_borrowerGain)), (a_p1_either, .inl (G.2.2.1, 30, .inl p1_either)), (a_p1_lender, .inl (G.2.2.1, 30, .inl p1_lender)), (a_p1_lenderGain, .inl (G.2.2.1, 30, .inl p1_lenderGain))]
set_option maxHeartbeats 8000000 in
set_option maxRecDepth 100000 in
theorem lb_X7_behindOne_0 (l : Launch) (G : jG) (a_p1 : Nat) (a_p1_borrower : Nat) (a_p1_borrowerGain : Nat) (a_p1_either : Nat) (a_p1_lender : Nat) (a_p1_lenderGain : Nat) (p1_persons : Int32) (p1_deals : Int32) (p1_lawYears : Int32) (p1_toldParts : Int32) (a_p1_personNames : Nat) (a_p1_born : Nat) (a_p1_dies : Nat) (a_p1_limit : Nat) (a_p1_dealNames : Nat) (a_p1_year : Nat) (a_p1_byYear : Nat) (a_p1_memo : Nat) (p1_borrower : Nat → Int32) (p1_borrowerGain : Nat → Int32) (p1_either : Nat → Int32) (p1_lender : Nat → Int32) (p1_lenderGain : Nat → Int32) (p2 : Int32) (X : jX) (C : jC X l G 4 rm_X7_behindOne cX7_behindOne RX7 wsX7_behindOne) (r : Int32) (hE : jE X (some .int) (some (.int r)) (wd_X7_behindOne G a_p1 a_p1_borrower a_p1_borrowerGain a_p1_either a_p1_lender a_p1_lenderGain p1_persons p1_deals p1_lawYears p1_toldParts a_p1_personNames a_p1_born a_p1_dies a_p1_limit a_p1_dealNames a_p1_year a_p1_byYear a_p1_memo p1_borrower p1_borrowerGain p1_either p1_lender p1_lenderGain)) (n : Nat) (IH0 : ∀ (v2 : Int32) (v3 : Int32), lpN (st_X7_behindOne p1_persons p1_deals p1_borrower p1_borrowerGain p1_either p1_lender p1_lenderGain) n ((v2, v3)) = some r → J X 0 0 (wd_X7_behindOne G a_p1 a_p1_borrower a_p1_borrowerGain a_p1_either a_p1_lender a_p1_lenderGain p1_persons p1_deals p1_lawYears p1_toldParts a_p1_personNames a_p1_born a_p1_dies a_p1_limit a_p1_dealNames a_p1_year a_p1_byYear a_p1_memo p1_borrower p1_borrowerGain p1_either p1_lender p1_lenderGain) [(0, .ref a_p1), (2, .int v2), (3, .int v3)] 4 []) (v2 : Int32) (v3 : Int32) (hd : lpR (st_X7_behindOne p1_persons p1_deals p1_borrower p1_borrowerGain p1_either p1_lender p1_lenderGain) n (bd_X7_behindOne_0 p1_persons p1_deals p1_borrower p1_borrowerGain p1_either p1_lender p1_lenderGain v2 v3) = some r) : J X 0 0 (wd_X7_behindOne G a_p1 a_p1_borrower a_p1_borrowerGain a_p1_either a_p1_lender a_p1_lenderGain p1_persons p1_deals p1_lawYears p1_toldParts a_p1_personNames a_p1_born a_p1_dies a_p1_limit a_p1_dealNames a_p1_year a_p1_byYear a_p1_memo p1_borrower p1_borrowerGain p1_either p1_lender p1_lenderGain) [(0, .ref a_p1), (2, .int v2), (3, .int v3)] 4 [] := by
  unfold bd_X7_behindOne_0 at hd
  refine j_iload_n (pc := 4) C dX7_behindOne_4 rfl 2 rfl ?_
  refine j_aload_n (pc := 5) C dX7_behindOne_5 rfl 0 rfl ?_
  refine j_get (pc := 6) (q0 := 0) (ci := 10) (kf := 0) C dX7_behindOne_6 in_X7_behindOne_X10 rfl (by decide) fl_X7_behindOne_36 rfl rfl ?_
  refine j_icmp_ge (pc := 9) (tgt := 33) C dX7_behindOne_9 (by decide) (fun c1 => ?_) (fun c1 => ?_)
  · have hd := lp_pos c1 hd
    refine j_iload_n (pc := 33) C dX7_behindOne_33 rfl 1 rfl ?_
    obtain rfl := Option.some.inj hd
    exact j_iret (pc := 34) C hE dX7_behindOne_34 rfl rfl
  · have hd := lp_neg c1 hd
    refine j_aload_n (pc := 12) C dX7_behindOne_12 rfl 0 rfl ?_
    refine j_iload_n (pc := 13) C dX7_behindOne_13 rfl 2 rfl ?_
    refine j_iload_n (pc := 14) C dX7_behindOne_14 rfl 1 rfl ?_
    obtain ⟨q2, eq2, hd⟩ := lp_bind hd
    refine j_callV (pc := 15) (q0 := 0) (ci := 10) (As := [.int v3, .int v2]) (rest := []) (st2 := [.int (b2i q2)]) (ws2 := wd_X7_behindOne G a_p1 a_p1_borrower a_p1_borrowerGain a_p1_either a_p1_lender a_p1_lenderGain p1_persons p1_deals p1_lawYears p1_toldParts a_p1_personNames a_p1_born a_p1_dies a_p1_limit a_p1_dealNames a_p1_year a_p1_byYear a_p1_memo p1_borrower p1_borrowerGain p1_either p1_lender p1_lenderGain) C (ct_X10_hasMoreByChange l G a_p1 a_p1_borrower a_p1_borrowerGain a_p1_either a_p1_lender a_p1_lenderGain p1_persons p1_deals p1_lawYears p1_toldParts a_p1_personNames a_p1_born a_p1_dies a_p1_limit a_p1_dealNames a_p1_year a_p1_byYear a_p1_memo p1_borrower p1_borrowerGain p1_either p1_lender p1_lenderGain v3 v2 q2 eq2) jy_X10_hasMoreByChange dX7_behindOne_15 gX7_behindOne_X10_hasMoreByChange rfl rfl (by decide) ⟨Nat.zero_le _, Nat.zero_le _⟩ [0, 1, 2, 3, 4, 5] rfl rfl (jpt_eq rfl rfl rfl) rfl rfl rfl (Nat.le_of_ble_eq_true rfl) rfl ?_
    refine j_ifb_eq (pc := 18) (tgt := 27) C dX7_behindOne_18 (by decide) (fun c3 => ?_) (fun c3 => ?_)
    · have hd := lp_neg c3 hd
      refine j_iinc (pc := 27) (lv2 := [(0, .ref a_p1), (2, .int v2), (3, .int (v3 + 1))]) C dX7_behindOne_27 jk_I1 (by decide) 2 rfl [1, 2, 0] rfl ?_
      refine j_goto (pc := 30) (tgt := 4) C dX7_behindOne_30 (by decide) ?_
      refine j_sub (lv2 := [(0, .ref a_p1), (2, .int v2), (3, .int (v3 + 1))]) [0, 1, 2] rfl ?_
      exact IH0 v2 (v3 + 1) hd
    · have hd := lp_pos c3 hd
      refine j_iload_n (pc := 21) C dX7_behindOne_21 rfl 1 rfl ?_
      refine j_iconst (pc := 22) (v := 1) C dX7_behindOne_22 jk_I1 ?_
      refine j_iload_n (pc := 23) C dX7_behindOne_23 rfl 2 rfl ?_
      refine j_ishl (pc := 24) C dX7_behindOne_24 ?_
      refine j_ixor (pc := 25) C dX7_behindOne_25 ?_
      refine j_istore_n (pc := 26) (lv2 := [(0, .ref a_p1), (2, .int (v2 ^^^ ((1 : Int32) <<< (v3 &&& 31)))), (3, .int v3)]) C dX7_behindOne_26 rfl (by decide) [1, 0, 2] rfl ?_
      refine j_iinc (pc := 27) (lv2 := [(0, .ref a_p1), (2, .int (v2 ^^^ ((1 : Int32) <<< (v3 &&& 31)))), (3, .int (v3 + 1))]) C dX7_behindOne_27 jk_I1 (by decide) 2 rfl [1, 2, 0] rfl ?_
      refine j_goto (pc := 30) (tgt := 4) C dX7_behindOne_30 (by decide) ?_
      refine j_sub (lv2 := [(0, .ref a_p1), (2, .int (v2 ^^^ ((1 : Int32) <<< (v3 &&& 31)))), (3, .int (v3 + 1))]) [0, 1, 2] rfl ?_
      exact IH0 (v2 ^^^ ((1 : Int32) <<< (v3 &&& 31))) (v3 + 1) hd
set_option maxHeartbeats 8000000 in
set_option maxRecDepth 100000 in
theorem la_X7_behindOne (l : Launch) (G : jG) (a_p1 : Nat) (a_p1_borrower : Nat) (a_p1_borrowerGain : Nat) (a_p1_either : Nat) (a_p1_lender : Nat) (a_p1_lenderGain : Nat) (p1_persons : Int32) (p1_deals : Int32) (p1_lawYears : Int32) (p1_toldParts : Int32) (a_p1_personNames : Nat) (a_p1_born : Nat) (a_p1_dies : Nat) (a_p1_limit : Nat) (a_p1_dealNames : Nat) (a_p1_year : Nat) (a_p1_byYear : Nat) (a_p1_memo : Nat) (p1_borrower : Nat → Int32) (p1_borrowerGain : Nat → Int32) (p1_either : Nat → Int32) (p1_lender : Nat → Int32) (p1_lenderGain : Nat → Int32) (p2 : Int32) (X : jX) (C : jC X l G 4 rm_X7_behindOne cX7_behindOne RX7 wsX7_behindOne) (r : Int32) (hE : jE X (some .int) (some (.int r)) (wd_X7_behindOne G a_p1 a_p1_borrower a_p1_borrowerGain a_p1_either a_p1_lender a_p1_lenderGain p1_persons p1_deals p1_lawYears p1_toldParts a_p1_personNames a_p1_born a_p1_dies a_p1_limit a_p1_dealNames a_p1_year a_p1_byYear a_p1_memo p1_borrower p1_borrowerGain p1_either p1_lender p1_lenderGain)) (n : Nat) : (∀ (v2 : Int32) (v3 : Int32), lpN (st_X7_behindOne p1_persons p1_deals p1_borrower p1_borrowerGain p1_either p1_lender p1_lenderGain) n ((v2, v3)) = some r → J X 0 0 (wd_X7_behindOne G a_p1 a_p1_borrower a_p1_borrowerGain a_p1_either a_p1_lender a_p1_lenderGain p1_persons p1_deals p1_lawYears p1_toldParts a_p1_personNames a_p1_born a_p1_dies a_p1_limit a_p1_dealNames a_p1_year a_p1_byYear a_p1_memo p1_borrower p1_borrowerGain p1_either p1_lender p1_lenderGain) [(0, .ref a_p1), (2, .int v2), (3, .int v3)] 4 []) := by
  induction n with
  | zero => exact (fun v2 v3 h => by cases h)
  | succ n ih => exact (fun v2 v3 h => lb_X7_behindOne_0 l G a_p1 a_p1_borrower a_p1_borrowerGain a_p1_either a_p1_lender a_p1_lenderGain p1_persons p1_deals p1_lawYears p1_toldParts a_p1_personNames a_p1_born a_p1_dies a_p1_limit a_p1_dealNames a_p1_year a_p1_byYear a_p1_memo p1_borrower p1_borrowerGain p1_either p1_lender p1_lenderGain p2 X C r hE n (ih) v2 v3 (by rw [lpN_succ] at h; exact h))
set_option maxHeartbeats 8000000 in
set_option maxRecDepth 100000 in
theorem ct_X7_behindOne (l : Launch) (G : jG) (a_p1 : Nat) (a_p1_borrower : Nat) (a_p1_borrowerGain : Nat) (a_p1_either : Nat) (a_p1_lender : Nat) (a_p1_lenderGain : Nat) (p1_persons : Int32) (p1_deals : Int32) (p1_lawYears : Int32) (p1_toldParts : Int32) (a_p1_personNames : Nat) (a_p1_born : Nat) (a_p1_dies : Nat) (a_p1_limit : Nat) (a_p1_dealNames : Nat) (a_p1_year : Nat) (a_p1_byYear : Nat) (a_p1_memo : Nat) (p1_borrower : Nat → Int32) (p1_borrowerGain : Nat → Int32) (p1_either : Nat → Int32) (p1_lender : Nat → Int32) (p1_lenderGain : Nat → Int32) (p2 : Int32) (r : Int32) (hd : dn_X7_behindOne p1_persons p1_deals p1_borrower p1_borrowerGain p1_either p1_lender p1_lenderGain p2 = some r) : jM l G yX7_behindOne wsX7_behindOne rm_X7_behindOne [.ref a_p1, .int p2] (wd_X7_behindOne G a_p1 a_p1_borrower a_p1_borrowerGain a_p1_either a_p1_lender a_p1_lenderGain p1_persons p1_deals p1_lawYears p1_toldParts a_p1_personNames a_p1_born a_p1_dies a_p1_limit a_p1_dealNames a_p1_year a_p1_byYear a_p1_memo p1_borrower p1_borrowerGain p1_either p1_lender p1_lenderGain) (some (.int r)) (wd_X7_behindOne G a_p1 a_p1_borrower a_p1_borrowerGain a_p1_either a_p1_lender a_p1_lenderGain p1_persons p1_deals p1_lawYears p1_toldParts a_p1_personNames a_p1_born a_p1_dies a_p1_limit a_p1_dealNames a_p1_year a_p1_byYear a_p1_memo p1_borrower p1_borrowerGain p1_either p1_lender p1_lenderGain) := by
  refine jM_of (own := RX7) (by decide) rfl rfl rfl (Nat.le_of_ble_eq_true rfl) (lv0 := [(0, .ref a_p1), (1, .int p2)]) rfl (fun X C hE => ?_)
  unfold dn_X7_behindOne at hd
  refine j_iload_n (pc := 0) C dX7_behindOne_0 rfl 1 rfl ?_
  refine j_istore_n (pc := 1) (lv2 := [(0, .ref a_p1), (2, .int p2)]) C dX7_behindOne_1 rfl (by decide) [1, 0] rfl ?_
  refine j_iconst (pc := 2) (v := 0) C dX7_behindOne_2 jk_I0 ?_
  refine j_istore_n (pc := 3) (lv2 := [(0, .ref a_p1), (2, .int p2), (3, .int 0)]) C dX7_behindOne_3 rfl (by decide) [1, 2, 0] rfl ?_
  refine j_sub (lv2 := [(0, .ref a_p1), (2, .int p2), (3, .int 0)]) [0, 1, 2] rfl ?_
  obtain ⟨n, hn⟩ := lpC_ex hd
  exact (la_X7_behindOne l G a_p1 a_p1_borrower a_p1_borrowerGain a_p1_either a_p1_lender a_p1_lenderGain p1_persons p1_deals p1_lawYears p1_toldParts a_p1_personNames a_p1_born a_p1_dies a_p1_limit a_p1_dealNames a_p1_year a_p1_byYear a_p1_memo p1_borrower p1_borrowerGain p1_either p1_lender p1_lenderGain p2 X C r hE n) p2 0 hn
/-! ##### LendTown$Rounds.follow(LLendTown$Town;I)I -/
abbrev rm_X7_follow : Room := { frames := 4, cells := 0, slots := 0, locals := 93 }
theorem jy_X7_follow : jY yX7_follow wsX7_follow rm_X7_follow cX7_follow 5 (some .int) 2 := ⟨⟨_, rfl⟩, ⟨rfl, rfl⟩, by decide, by decide, by decide +kernel⟩
theorem in_X7_follow_X7 : ∀ w ∈ u_ws RX7 TX7 4, w ∈ wsX7_follow := fun w h => List.mem_cons_of_mem _ (List.mem_append_left _ (List.mem_append_right _ (h)))
theorem fl_X7_follow_9 : Cond.fieldLink RX7 9 "LendTown$Rounds" "behindRound" "[I" ∈ wsX7_follow := List.mem_of_getElem? (i := 1) rfl
theorem fl_X7_follow_15 : Cond.fieldLink RX7 15 "LendTown$Rounds" "known" "Z" ∈ wsX7_follow := List.mem_of_getElem? (i := 2) rfl
theorem fl_X7_follow_19 : Cond.fieldLink RX7 19 "LendTown$Rounds" "lastParts" "I" ∈ wsX7_follow := List.mem_of_getElem? (i := 3) rfl
theorem fl_X7_follow_23 : Cond.fieldLink RX7 23 "LendTown$Rounds" "length" "I" ∈ wsX7_follow := List.mem_of_getElem? (i := 4) rfl
def wd_X7_follow (G : jG) (a_t : Nat) (a_t_behindRound : Nat) (a_p1 : Nat) (a_p1_borrower : Nat) (a_p1_borrowerGain : Nat) (a_p1_either : Nat) (a_p1_lender : Nat) (a_p1_lenderGain : Nat) (t_known : Int32) (t_lastParts : Int32) (t_length : Int32) (t_behindRound : Nat → Int32) (p1_persons : Int32) (p1_deals : Int32) (p1_lawYears : Int32) (p1_toldParts : Int32) (a_p1_personNames : Nat) (a_p1_born : Nat) (a_p1_dies : Nat) (a_p1_limit : Nat) (a_p1_dealNames : Nat) (a_p1_year : Nat) (a_p1_byYear : Nat) (a_p1_memo : Nat) (p1_borrower : Nat → Int32) (p1_borrowerGain : Nat → Int32) (p1_either : Nat → Int32) (p1_lender : Nat → Int32) (p1_lenderGain : Nat → Int32) : va_W := [(a_t, .inr (7, [.ref a_t_behindRound, .int t_known, .int t_lastParts, .int t_length])), (a_t_behindRound, .inl (G.2.2.1, 1024, .inl t_behindRound)), (a_p1, .inr (10, [.int p1_persons, .int p1_deals, .int p1_lawYears, .int p1_toldParts, .ref a_p1_personNames, .ref a_p1_born, .ref a_p1_dies, .ref a_p1_limit, .ref a_p1_dealNames, .ref a_p1_lender, .ref a_p1_borrower, .ref a_p1_year, .ref a_p1_lenderGain, .ref a_p1_borrowerGain, .ref a_p1_either, .ref a_p1_byYear, .ref a_p1_memo])), (a_p1_borrower, .inl (G.2.2.1, 30, .inl p1_borrower)), (a_p1_borrowerGain, .inl (G.2.2.1, 30, .inl p1_borrowerGain)), (a_p1_either, .inl (G.2.2.1, 30, .inl p1_either)), (a_p1_lender, .inl (G.2.2.1, 30, .inl p1_lender)), (a_p1_lenderGain, .inl (G.2.2.1, 30, .inl p1_lenderGain))]
set_option maxHeartbeats 8000000 in
set_option maxRecDepth 100000 in
theorem lb_X7_follow_0 (l : Launch) (G : jG) (a_t : Nat) (a_t_behindRound : Nat) (a_p1 : Nat) (a_p1_borrower : Nat) (a_p1_borrowerGain : Nat) (a_p1_either : Nat) (a_p1_lender : Nat) (a_p1_lenderGain : Nat) (p1_persons : Int32) (p1_deals : Int32) (p1_lawYears : Int32) (p1_toldParts : Int32) (a_p1_personNames : Nat) (a_p1_born : Nat) (a_p1_dies : Nat) (a_p1_limit : Nat) (a_p1_dealNames : Nat) (a_p1_year : Nat) (a_p1_byYear : Nat) (a_p1_memo : Nat) (p1_borrower : Nat → Int32) (p1_borrowerGain : Nat → Int32) (p1_either : Nat → Int32) (p1_lender : Nat → Int32) (p1_lenderGain : Nat → Int32) (p2 : Int32) (X : jX) (C : jC X l G 5 rm_X7_follow cX7_follow RX7 wsX7_follow) (r : Int32 × (Nat → Int32) × Int32 × Int32 × Int32) (hE : jE X (some .int) (some (.int r.1)) (wd_X7_follow G a_t a_t_behindRound a_p1 a_p1_borrower a_p1_borrowerGain a_p1_either a_p1_lender a_p1_lenderGain r.2.2.1 r.2.2.2.1 r.2.2.2.2 r.2.1 p1_persons p1_deals p1_lawYears p1_toldParts a_p1_personNames a_p1_born a_p1_dies a_p1_limit a_p1_dealNames a_p1_year a_p1_byYear a_p1_memo p1_borrower p1_borrowerGain p1_either p1_lender p1_lenderGain)) (n : Nat) (IH0 : ∀ (v3 : Int32) (t_behindRound : Nat → Int32) (t_known : Int32) (t_lastParts : Int32) (t_length : Int32), lpN (st_X7_follow p1_persons p1_deals p1_borrower p1_borrowerGain p1_either p1_lender p1_lenderGain) n ((v3, t_behindRound, t_known, t_lastParts, t_length)) = some r → J X 0 0 (wd_X7_follow G a_t a_t_behindRound a_p1 a_p1_borrower a_p1_borrowerGain a_p1_either a_p1_lender a_p1_lenderGain t_known t_lastParts t_length t_behindRound p1_persons p1_deals p1_lawYears p1_toldParts a_p1_personNames a_p1_born a_p1_dies a_p1_limit a_p1_dealNames a_p1_year a_p1_byYear a_p1_memo p1_borrower p1_borrowerGain p1_either p1_lender p1_lenderGain) [(0, .ref a_t), (1, .ref a_p1), (3, .int v3)] 32 []) (v3 : Int32) (t_behindRound : Nat → Int32) (t_known : Int32) (t_lastParts : Int32) (t_length : Int32) (hd : lpR (st_X7_follow p1_persons p1_deals p1_borrower p1_borrowerGain p1_either p1_lender p1_lenderGain) n (bd_X7_follow_0 p1_persons p1_deals p1_borrower p1_borrowerGain p1_either p1_lender p1_lenderGain v3 t_behindRound t_known t_lastParts t_length) = some r) : J X 0 0 (wd_X7_follow G a_t a_t_behindRound a_p1 a_p1_borrower a_p1_borrowerGain a_p1_either a_p1_lender a_p1_lenderGain t_known t_lastParts t_length t_behindRound p1_persons p1_deals p1_lawYears p1_toldParts a_p1_personNames a_p1_born a_p1_dies a_p1_limit a_p1_dealNames a_p1_year a_p1_byYear a_p1_memo p1_borrower p1_borrowerGain p1_either p1_lender p1_lenderGain) [(0, .ref a_t), (1, .ref a_p1), (3, .int v3)] 32 [] := by
  unfold bd_X7_follow_0 at hd
  refine j_iload_n (pc := 32) C dX7_follow_32 rfl 2 rfl ?_
  refine j_sipush (pc := 33) (v := 1024) C dX7_follow_33 jk_S1024 ?_
  refine j_icmp_gt (pc := 36) (tgt := 106) C dX7_follow_36 (by decide) (fun c3 => ?_) (fun c3 => ?_)
  · have hd := lp_pos c3 hd
    refine j_sipush (pc := 106) (v := 1024) C dX7_follow_106 jk_S1024 ?_
    obtain rfl := Option.some.inj hd
    exact j_iret (pc := 109) C hE dX7_follow_109 rfl rfl
  · have hd := lp_neg c3 hd
    refine j_aload_n (pc := 39) C dX7_follow_39 rfl 1 rfl ?_
    refine j_aload_n (pc := 40) C dX7_follow_40 rfl 0 rfl ?_
    refine j_get (pc := 41) (q0 := 0) (ci := 7) (kf := 2) C dX7_follow_41 in_X7_follow_X7 rfl (by decide) fl_X7_follow_19 rfl rfl ?_
    obtain ⟨q4, eq4, hd⟩ := lp_bind hd
    refine j_callS (pc := 44) (As := [.ref a_p1, .int t_lastParts]) (rest := []) (st2 := [.int q4]) (ws2 := wd_X7_follow G a_t a_t_behindRound a_p1 a_p1_borrower a_p1_borrowerGain a_p1_either a_p1_lender a_p1_lenderGain t_known t_lastParts t_length t_behindRound p1_persons p1_deals p1_lawYears p1_toldParts a_p1_personNames a_p1_born a_p1_dies a_p1_limit a_p1_dealNames a_p1_year a_p1_byYear a_p1_memo p1_borrower p1_borrowerGain p1_either p1_lender p1_lenderGain) C (ct_X7_behindOne l G a_p1 a_p1_borrower a_p1_borrowerGain a_p1_either a_p1_lender a_p1_lenderGain p1_persons p1_deals p1_lawYears p1_toldParts a_p1_personNames a_p1_born a_p1_dies a_p1_limit a_p1_dealNames a_p1_year a_p1_byYear a_p1_memo p1_borrower p1_borrowerGain p1_either p1_lender p1_lenderGain t_lastParts q4 eq4) jy_X7_behindOne dX7_follow_44 gX7_follow_X7_behindOne rfl (by decide) ⟨Nat.zero_le _, Nat.zero_le _⟩ [2, 3, 4, 5, 6, 7] rfl rfl (jpt_eq rfl rfl rfl) rfl (Nat.le_of_ble_eq_true rfl) rfl ?_
    refine j_istore (pc := 47) (lv2 := [(0, .ref a_t), (1, .ref a_p1), (3, .int v3), (4, .int q4)]) C dX7_follow_47 (by decide) [1, 2, 3, 0] rfl ?_
    refine j_iload (pc := 49) C dX7_follow_49 3 rfl ?_
    refine j_aload_n (pc := 51) C dX7_follow_51 rfl 0 rfl ?_
    refine j_get (pc := 52) (q0 := 0) (ci := 7) (kf := 2) C dX7_follow_52 in_X7_follow_X7 rfl (by decide) fl_X7_follow_19 rfl rfl ?_
    refine j_icmp_ne (pc := 55) (tgt := 60) C dX7_follow_55 (by decide) (fun c5 => ?_) (fun c5 => ?_)
    · have hd := lp_neg c5 hd
      refine j_aload_n (pc := 60) C dX7_follow_60 rfl 0 rfl ?_
      refine j_iload (pc := 61) C dX7_follow_61 3 rfl ?_
      refine j_put (pc := 63) (q0 := 0) (ci := 7) (kf := 2) (ws2 := wd_X7_follow G a_t a_t_behindRound a_p1 a_p1_borrower a_p1_borrowerGain a_p1_either a_p1_lender a_p1_lenderGain t_known q4 t_length t_behindRound p1_persons p1_deals p1_lawYears p1_toldParts a_p1_personNames a_p1_born a_p1_dies a_p1_limit a_p1_dealNames a_p1_year a_p1_byYear a_p1_memo p1_borrower p1_borrowerGain p1_either p1_lender p1_lenderGain) C dX7_follow_63 in_X7_follow_X7 tyX7 tyX7_ok nmX7 rfl (by decide) fl_X7_follow_19 rfl rfl rfl rfl (Nat.le_of_ble_eq_true rfl) rfl ?_
      refine j_aload_n (pc := 66) C dX7_follow_66 rfl 0 rfl ?_
      refine j_get (pc := 67) (q0 := 0) (ci := 7) (kf := 0) C dX7_follow_67 in_X7_follow_X7 rfl (by decide) fl_X7_follow_9 rfl rfl ?_
      refine j_iload (pc := 70) C dX7_follow_70 3 rfl ?_
      obtain ⟨h6, hd⟩ := lp_chk hd
      refine j_iald (pc := 72) (q0 := 1) C dX7_follow_72 rfl h6 ?_
      refine j_iconst (pc := 73) (v := (-1)) C dX7_follow_73 jk_Im1 ?_
      refine j_icmp_eq (pc := 74) (tgt := 92) C dX7_follow_74 (by decide) (fun c7 => ?_) (fun c7 => ?_)
      · have hd := lp_pos c7 hd
        refine j_aload_n (pc := 92) C dX7_follow_92 rfl 0 rfl ?_
        refine j_get (pc := 93) (q0 := 0) (ci := 7) (kf := 0) C dX7_follow_93 in_X7_follow_X7 rfl (by decide) fl_X7_follow_9 rfl rfl ?_
        refine j_iload (pc := 96) C dX7_follow_96 3 rfl ?_
        refine j_iload_n (pc := 98) C dX7_follow_98 rfl 2 rfl ?_
        obtain ⟨h8, hd⟩ := lp_chk hd
        refine j_iast (pc := 99) (q0 := 1) (ws2 := wd_X7_follow G a_t a_t_behindRound a_p1 a_p1_borrower a_p1_borrowerGain a_p1_either a_p1_lender a_p1_lenderGain t_known q4 t_length (upd t_behindRound (q4).toNatClampNeg v3) p1_persons p1_deals p1_lawYears p1_toldParts a_p1_personNames a_p1_born a_p1_dies a_p1_limit a_p1_dealNames a_p1_year a_p1_byYear a_p1_memo p1_borrower p1_borrowerGain p1_either p1_lender p1_lenderGain) C dX7_follow_99 rfl h8 rfl ?_
        refine j_iinc (pc := 100) (lv2 := [(0, .ref a_t), (1, .ref a_p1), (3, .int (v3 + 1)), (4, .int q4)]) C dX7_follow_100 jk_I1 (by decide) 2 rfl [1, 2, 0, 3] rfl ?_
        refine j_goto (pc := 103) (tgt := 32) C dX7_follow_103 (by decide) ?_
        refine j_sub (lv2 := [(0, .ref a_t), (1, .ref a_p1), (3, .int (v3 + 1))]) [0, 1, 2] rfl ?_
        exact IH0 (v3 + 1) (upd t_behindRound (q4).toNatClampNeg v3) t_known q4 t_length hd
      · have hd := lp_neg c7 hd
        refine j_aload_n (pc := 77) C dX7_follow_77 rfl 0 rfl ?_
        refine j_iload_n (pc := 78) C dX7_follow_78 rfl 2 rfl ?_
        refine j_aload_n (pc := 79) C dX7_follow_79 rfl 0 rfl ?_
        refine j_get (pc := 80) (q0 := 0) (ci := 7) (kf := 0) C dX7_follow_80 in_X7_follow_X7 rfl (by decide) fl_X7_follow_9 rfl rfl ?_
        refine j_iload (pc := 83) C dX7_follow_83 3 rfl ?_
        obtain ⟨h9, hd⟩ := lp_chk hd
        refine j_iald (pc := 85) (q0 := 1) C dX7_follow_85 rfl h9 ?_
        refine j_isub (pc := 86) C dX7_follow_86 ?_
        refine j_put (pc := 87) (q0 := 0) (ci := 7) (kf := 3) (ws2 := wd_X7_follow G a_t a_t_behindRound a_p1 a_p1_borrower a_p1_borrowerGain a_p1_either a_p1_lender a_p1_lenderGain t_known q4 (v3 - (t_behindRound (q4).toNatClampNeg)) t_behindRound p1_persons p1_deals p1_lawYears p1_toldParts a_p1_personNames a_p1_born a_p1_dies a_p1_limit a_p1_dealNames a_p1_year a_p1_byYear a_p1_memo p1_borrower p1_borrowerGain p1_either p1_lender p1_lenderGain) C dX7_follow_87 in_X7_follow_X7 tyX7 tyX7_ok nmX7 rfl (by decide) fl_X7_follow_23 rfl rfl rfl rfl (Nat.le_of_ble_eq_true rfl) rfl ?_
        refine j_iload_n (pc := 90) C dX7_follow_90 rfl 2 rfl ?_
        obtain rfl := Option.some.inj hd
        exact j_iret (pc := 91) C hE dX7_follow_91 rfl rfl
    · have hd := lp_pos c5 hd
      refine j_iload_n (pc := 58) C dX7_follow_58 rfl 2 rfl ?_
      obtain rfl := Option.some.inj hd
      exact j_iret (pc := 59) C hE dX7_follow_59 rfl rfl
set_option maxHeartbeats 8000000 in
set_option maxRecDepth 100000 in
theorem la_X7_follow (l : Launch) (G : jG) (a_t : Nat) (a_t_behindRound : Nat) (a_p1 : Nat) (a_p1_borrower : Nat) (a_p1_borrowerGain : Nat) (a_p1_either : Nat) (a_p1_lender : Nat) (a_p1_lenderGain : Nat) (p1_persons : Int32) (p1_deals : Int32) (p1_lawYears : Int32) (p1_toldParts : Int32) (a_p1_personNames : Nat) (a_p1_born : Nat) (a_p1_dies : Nat) (a_p1_limit : Nat) (a_p1_dealNames : Nat) (a_p1_year : Nat) (a_p1_byYear : Nat) (a_p1_memo : Nat) (p1_borrower : Nat → Int32) (p1_borrowerGain : Nat → Int32) (p1_either : Nat → Int32) (p1_lender : Nat → Int32) (p1_lenderGain : Nat → Int32) (p2 : Int32) (X : jX) (C : jC X l G 5 rm_X7_follow cX7_follow RX7 wsX7_follow) (r : Int32 × (Nat → Int32) × Int32 × Int32 × Int32) (hE : jE X (some .int) (some (.int r.1)) (wd_X7_follow G a_t a_t_behindRound a_p1 a_p1_borrower a_p1_borrowerGain a_p1_either a_p1_lender a_p1_lenderGain r.2.2.1 r.2.2.2.1 r.2.2.2.2 r.2.1 p1_persons p1_deals p1_lawYears p1_toldParts a_p1_personNames a_p1_born a_p1_dies a_p1_limit a_p1_dealNames a_p1_year a_p1_byYear a_p1_memo p1_borrower p1_borrowerGain p1_either p1_lender p1_lenderGain)) (n : Nat) : (∀ (v3 : Int32) (t_behindRound : Nat → Int32) (t_known : Int32) (t_lastParts : Int32) (t_length : Int32), lpN (st_X7_follow p1_persons p1_deals p1_borrower p1_borrowerGain p1_either p1_lender p1_lenderGain) n ((v3, t_behindRound, t_known, t_lastParts, t_length)) = some r → J X 0 0 (wd_X7_follow G a_t a_t_behindRound a_p1 a_p1_borrower a_p1_borrowerGain a_p1_either a_p1_lender a_p1_lenderGain t_known t_lastParts t_length t_behindRound p1_persons p1_deals p1_lawYears p1_toldParts a_p1_personNames a_p1_born a_p1_dies a_p1_limit a_p1_dealNames a_p1_year a_p1_byYear a_p1_memo p1_borrower p1_borrowerGain p1_either p1_lender p1_lenderGain) [(0, .ref a_t), (1, .ref a_p1), (3, .int v3)] 32 []) := by
  induction n with
  | zero => exact (fun v3 t_behindRound t_known t_lastParts t_length h => by cases h)
  | succ n ih => exact (fun v3 t_behindRound t_known t_lastParts t_length h => lb_X7_follow_0 l G a_t a_t_behindRound a_p1 a_p1_borrower a_p1_borrowerGain a_p1_either a_p1_lender a_p1_lenderGain p1_persons p1_deals p1_lawYears p1_toldParts a_p1_personNames a_p1_born a_p1_dies a_p1_limit a_p1_dealNames a_p1_year a_p1_byYear a_p1_memo p1_borrower p1_borrowerGain p1_either p1_lender p1_lenderGain p2 X C r hE n (ih) v3 t_behindRound t_known t_lastParts t_length (by rw [lpN_succ] at h; exact h))
set_option maxHeartbeats 8000000 in
set_option maxRecDepth 100000 in
theorem ct_X7_follow (l : Launch) (G : jG) (a_t : Nat) (a_t_behindRound : Nat) (a_p1 : Nat) (a_p1_borrower : Nat) (a_p1_borrowerGain : Nat) (a_p1_either : Nat) (a_p1_lender : Nat) (a_p1_lenderGain : Nat) (t_known : Int32) (t_lastParts : Int32) (t_length : Int32) (t_behindRound : Nat → Int32) (p1_persons : Int32) (p1_deals : Int32) (p1_lawYears : Int32) (p1_toldParts : Int32) (a_p1_personNames : Nat) (a_p1_born : Nat) (a_p1_dies : Nat) (a_p1_limit : Nat) (a_p1_dealNames : Nat) (a_p1_year : Nat) (a_p1_byYear : Nat) (a_p1_memo : Nat) (p1_borrower : Nat → Int32) (p1_borrowerGain : Nat → Int32) (p1_either : Nat → Int32) (p1_lender : Nat → Int32) (p1_lenderGain : Nat → Int32) (p2 : Int32) (r : Int32 × (Nat → Int32) × Int32 × Int32 × Int32) (hd : dn_X7_follow t_behindRound p1_persons p1_deals p1_borrower p1_borrowerGain p1_either p1_lender p1_lenderGain p2 = some r) : jM l G yX7_follow wsX7_follow rm_X7_follow [.ref a_t, .ref a_p1, .int p2] (wd_X7_follow G a_t a_t_behindRound a_p1 a_p1_borrower a_p1_borrowerGain a_p1_either a_p1_lender a_p1_lenderGain t_known t_lastParts t_length t_behindRound p1_persons p1_deals p1_lawYears p1_toldParts a_p1_personNames a_p1_born a_p1_dies a_p1_limit a_p1_dealNames a_p1_year a_p1_byYear a_p1_memo p1_borrower p1_borrowerGain p1_either p1_lender p1_lenderGain) (some (.int r.1)) (wd_X7_follow G a_t a_t_behindRound a_p1 a_p1_borrower a_p1_borrowerGain a_p1_either a_p1_lender a_p1_lenderGain r.2.2.1 r.2.2.2.1 r.2.2.2.2 r.2.1 p1_persons p1_deals p1_lawYears p1_toldParts a_p1_personNames a_p1_born a_p1_dies a_p1_limit a_p1_dealNames a_p1_year a_p1_byYear a_p1_memo p1_borrower p1_borrowerGain p1_either p1_lender p1_lenderGain) := by
  refine jM_of (own := RX7) (by decide) rfl rfl rfl (Nat.le_of_ble_eq_true rfl) (lv0 := [(0, .ref a_t), (1, .ref a_p1), (2, .int p2)]) rfl (fun X C hE => ?_)
  unfold dn_X7_follow at hd
  refine j_aload_n (pc := 0) C dX7_follow_0 rfl 0 rfl ?_
  refine j_get (pc := 1) (q0 := 0) (ci := 7) (kf := 0) C dX7_follow_1 in_X7_follow_X7 rfl (by decide) fl_X7_follow_9 rfl rfl ?_
  refine j_iconst (pc := 4) (v := (-1)) C dX7_follow_4 jk_Im1 ?_
  refine j_callS (pc := 5) (As := [.ref a_t_behindRound, .int (-1)]) (rest := []) (st2 := []) (ws2 := wd_X7_follow G a_t a_t_behindRound a_p1 a_p1_borrower a_p1_borrowerGain a_p1_either a_p1_lender a_p1_lenderGain t_known t_lastParts t_length (jfill 1024 t_behindRound (-1)) p1_persons p1_deals p1_lawYears p1_toldParts a_p1_personNames a_p1_born a_p1_dies a_p1_limit a_p1_dealNames a_p1_year a_p1_byYear a_p1_memo p1_borrower p1_borrowerGain p1_either p1_lender p1_lenderGain) C (ct_fill l G 1024 a_t_behindRound t_behindRound (-1) (by decide)) jy_J7_fill_53178 dX7_follow_5 gX7_follow_J7_fill_53178 rfl (by decide) ⟨Nat.zero_le _, Nat.zero_le _⟩ [1] rfl rfl (jpt_eq rfl rfl rfl) rfl (Nat.le_of_ble_eq_true rfl) rfl ?_
  refine j_aload_n (pc := 8) C dX7_follow_8 rfl 0 rfl ?_
  refine j_get (pc := 9) (q0 := 0) (ci := 7) (kf := 0) C dX7_follow_9 in_X7_follow_X7 rfl (by decide) fl_X7_follow_9 rfl rfl ?_
  refine j_iload_n (pc := 12) C dX7_follow_12 rfl 2 rfl ?_
  refine j_iconst (pc := 13) (v := 0) C dX7_follow_13 jk_I0 ?_
  obtain ⟨h2, hd⟩ := ob_chk hd
  refine j_iast (pc := 14) (q0 := 1) (ws2 := wd_X7_follow G a_t a_t_behindRound a_p1 a_p1_borrower a_p1_borrowerGain a_p1_either a_p1_lender a_p1_lenderGain t_known t_lastParts t_length (upd (jfill 1024 t_behindRound (-1)) (p2).toNatClampNeg 0) p1_persons p1_deals p1_lawYears p1_toldParts a_p1_personNames a_p1_born a_p1_dies a_p1_limit a_p1_dealNames a_p1_year a_p1_byYear a_p1_memo p1_borrower p1_borrowerGain p1_either p1_lender p1_lenderGain) C dX7_follow_14 rfl h2 rfl ?_
  refine j_aload_n (pc := 15) C dX7_follow_15 rfl 0 rfl ?_
  refine j_iconst (pc := 16) (v := 1) C dX7_follow_16 jk_I1 ?_
  refine j_put (pc := 17) (q0 := 0) (ci := 7) (kf := 1) (ws2 := wd_X7_follow G a_t a_t_behindRound a_p1 a_p1_borrower a_p1_borrowerGain a_p1_either a_p1_lender a_p1_lenderGain 1 t_lastParts t_length (upd (jfill 1024 t_behindRound (-1)) (p2).toNatClampNeg 0) p1_persons p1_deals p1_lawYears p1_toldParts a_p1_personNames a_p1_born a_p1_dies a_p1_limit a_p1_dealNames a_p1_year a_p1_byYear a_p1_memo p1_borrower p1_borrowerGain p1_either p1_lender p1_lenderGain) C dX7_follow_17 in_X7_follow_X7 tyX7 tyX7_ok nmX7 rfl (by decide) fl_X7_follow_15 rfl rfl rfl rfl (Nat.le_of_ble_eq_true rfl) rfl ?_
  refine j_aload_n (pc := 20) C dX7_follow_20 rfl 0 rfl ?_
  refine j_iload_n (pc := 21) C dX7_follow_21 rfl 2 rfl ?_
  refine j_put (pc := 22) (q0 := 0) (ci := 7) (kf := 2) (ws2 := wd_X7_follow G a_t a_t_behindRound a_p1 a_p1_borrower a_p1_borrowerGain a_p1_either a_p1_lender a_p1_lenderGain 1 p2 t_length (upd (jfill 1024 t_behindRound (-1)) (p2).toNatClampNeg 0) p1_persons p1_deals p1_lawYears p1_toldParts a_p1_personNames a_p1_born a_p1_dies a_p1_limit a_p1_dealNames a_p1_year a_p1_byYear a_p1_memo p1_borrower p1_borrowerGain p1_either p1_lender p1_lenderGain) C dX7_follow_22 in_X7_follow_X7 tyX7 tyX7_ok nmX7 rfl (by decide) fl_X7_follow_19 rfl rfl rfl rfl (Nat.le_of_ble_eq_true rfl) rfl ?_
  refine j_aload_n (pc := 25) C dX7_follow_25 rfl 0 rfl ?_
  refine j_iconst (pc := 26) (v := 0) C dX7_follow_26 jk_I0 ?_
  refine j_put (pc := 27) (q0 := 0) (ci := 7) (kf := 3) (ws2 := wd_X7_follow G a_t a_t_behindRound a_p1 a_p1_borrower a_p1_borrowerGain a_p1_either a_p1_lender a_p1_lenderGain 1 p2 0 (upd (jfill 1024 t_behindRound (-1)) (p2).toNatClampNeg 0) p1_persons p1_deals p1_lawYears p1_toldParts a_p1_personNames a_p1_born a_p1_dies a_p1_limit a_p1_dealNames a_p1_year a_p1_byYear a_p1_memo p1_borrower p1_borrowerGain p1_either p1_lender p1_lenderGain) C dX7_follow_27 in_X7_follow_X7 tyX7 tyX7_ok nmX7 rfl (by decide) fl_X7_follow_23 rfl rfl rfl rfl (Nat.le_of_ble_eq_true rfl) rfl ?_
  refine j_iconst (pc := 30) (v := 1) C dX7_follow_30 jk_I1 ?_
  refine j_istore_n (pc := 31) (lv2 := [(0, .ref a_t), (1, .ref a_p1), (3, .int 1)]) C dX7_follow_31 rfl (by decide) [1, 2, 0] rfl ?_
  refine j_sub (lv2 := [(0, .ref a_t), (1, .ref a_p1), (3, .int 1)]) [0, 1, 2] rfl ?_
  obtain ⟨n, hn⟩ := lpC_ex hd
  exact (la_X7_follow l G a_t a_t_behindRound a_p1 a_p1_borrower a_p1_borrowerGain a_p1_either a_p1_lender a_p1_lenderGain p1_persons p1_deals p1_lawYears p1_toldParts a_p1_personNames a_p1_born a_p1_dies a_p1_limit a_p1_dealNames a_p1_year a_p1_byYear a_p1_memo p1_borrower p1_borrowerGain p1_either p1_lender p1_lenderGain p2 X C r hE n) 1 (upd (jfill 1024 t_behindRound (-1)) (p2).toNatClampNeg 0) 1 p2 0 hn
