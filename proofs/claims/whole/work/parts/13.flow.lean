/-! ##### LendTown$Flow.gather(LLendTown$Town;III)V -/
abbrev rm_X2_gather : Room := { frames := 1, cells := 0, slots := 0, locals := 24 }
theorem jy_X2_gather : jY yX2_gather wsX2_gather rm_X2_gather cX2_gather 8 none 4 := ⟨⟨_, rfl⟩, ⟨rfl, rfl⟩, by decide, by decide, by decide +kernel⟩
theorem in_X2_gather_X10 : ∀ w ∈ u_ws RX10 TX10 17, w ∈ wsX2_gather := fun w h => List.mem_cons_of_mem _ (List.mem_append_right _ (h))
theorem in_X2_gather_X2 : ∀ w ∈ u_ws RX2 TX2 9, w ∈ wsX2_gather := fun w h => List.mem_cons_of_mem _ (List.mem_append_left _ (List.mem_append_right _ (h)))
theorem fl_X2_gather_33 : Cond.fieldLink RX2 33 "LendTown$Flow" "going" "I" ∈ wsX2_gather := List.mem_of_getElem? (i := 1) rfl
theorem fl_X2_gather_21 : Cond.fieldLink RX2 21 "LendTown$Flow" "wanted" "[I" ∈ wsX2_gather := List.mem_of_getElem? (i := 2) rfl
theorem fl_X2_gather_61 : Cond.fieldLink RX2 61 "LendTown$Town" "byYear" "[I" ∈ wsX2_gather := List.mem_of_getElem? (i := 3) rfl
theorem fl_X2_gather_94 : Cond.fieldLink RX2 94 "LendTown$Town" "lender" "[I" ∈ wsX2_gather := List.mem_of_getElem? (i := 4) rfl
theorem fl_X2_gather_9 : Cond.fieldLink RX2 9 "LendTown$Flow" "lends" "[I" ∈ wsX2_gather := List.mem_of_getElem? (i := 5) rfl
theorem fl_X2_gather_97 : Cond.fieldLink RX2 97 "LendTown$Town" "borrower" "[I" ∈ wsX2_gather := List.mem_of_getElem? (i := 6) rfl
theorem fl_X2_gather_15 : Cond.fieldLink RX2 15 "LendTown$Flow" "borrows" "[I" ∈ wsX2_gather := List.mem_of_getElem? (i := 7) rfl
theorem fl_X2_gather_18 : Cond.fieldLink RX2 18 "LendTown$Flow" "worth" "[I" ∈ wsX2_gather := List.mem_of_getElem? (i := 8) rfl
def wd_X2_gather (G : jG) (a_t : Nat) (a_t_borrows : Nat) (a_t_lends : Nat) (a_t_wanted : Nat) (a_t_worth : Nat) (a_p1 : Nat) (a_p1_borrower : Nat) (a_p1_borrowerGain : Nat) (a_p1_byYear : Nat) (a_p1_either : Nat) (a_p1_lender : Nat) (a_p1_lenderGain : Nat) (a_t_room : Nat) (a_t_reach : Nat) (a_t_via : Nat) (t_going : Int32) (t_chosen : Int32) (t_borrows : Nat → Int32) (t_lends : Nat → Int32) (t_wanted : Nat → Int32) (t_worth : Nat → Int32) (p1_persons : Int32) (p1_deals : Int32) (p1_lawYears : Int32) (p1_toldParts : Int32) (a_p1_personNames : Nat) (a_p1_born : Nat) (a_p1_dies : Nat) (a_p1_limit : Nat) (a_p1_dealNames : Nat) (a_p1_year : Nat) (a_p1_memo : Nat) (p1_borrower : Nat → Int32) (p1_borrowerGain : Nat → Int32) (p1_byYear : Nat → Int32) (p1_either : Nat → Int32) (p1_lender : Nat → Int32) (p1_lenderGain : Nat → Int32) : va_W := [(a_t, .inr (2, [.ref a_t_lends, .ref a_t_borrows, .ref a_t_worth, .ref a_t_wanted, .ref a_t_room, .ref a_t_reach, .ref a_t_via, .int t_going, .int t_chosen])), (a_t_borrows, .inl (G.2.2.1, 30, .inl t_borrows)), (a_t_lends, .inl (G.2.2.1, 30, .inl t_lends)), (a_t_wanted, .inl (G.2.2.1, 10, .inl t_wanted)), (a_t_worth, .inl (G.2.2.1, 30, .inl t_worth)), (a_p1, .inr (10, [.int p1_persons, .int p1_deals, .int p1_lawYears, .int p1_toldParts, .ref a_p1_personNames, .ref a_p1_born, .ref a_p1_dies, .ref a_p1_limit, .ref a_p1_dealNames, .ref a_p1_lender, .ref a_p1_borrower, .ref a_p1_year, .ref a_p1_lenderGain, .ref a_p1_borrowerGain, .ref a_p1_either, .ref a_p1_byYear, .ref a_p1_memo])), (a_p1_borrower, .inl (G.2.2.1, 30, .inl p1_borrower)), (a_p1_borrowerGain, .inl (G.2.2.1, 30, .inl p1_borrowerGain)), (a_p1_byYear, .inl (G.2.2.1, 30, .inl p1_byYear)), (a_p1_either, .inl (G.2.2.1, 30, .inl p1_either)), (a_p1_lender, .inl (G.2.2.1, 30, .inl p1_lender)), (a_p1_lenderGain, .inl (G.2.2.1, 30, .inl p1_lenderGain))]
set_option maxHeartbeats 8000000 in
set_option maxRecDepth 100000 in
theorem lb_X2_gather_0 (l : Launch) (G : jG) (a_t : Nat) (a_t_borrows : Nat) (a_t_lends : Nat) (a_t_wanted : Nat) (a_t_worth : Nat) (a_p1 : Nat) (a_p1_borrower : Nat) (a_p1_borrowerGain : Nat) (a_p1_byYear : Nat) (a_p1_either : Nat) (a_p1_lender : Nat) (a_p1_lenderGain : Nat) (a_t_room : Nat) (a_t_reach : Nat) (a_t_via : Nat) (t_chosen : Int32) (p1_persons : Int32) (p1_deals : Int32) (p1_lawYears : Int32) (p1_toldParts : Int32) (a_p1_personNames : Nat) (a_p1_born : Nat) (a_p1_dies : Nat) (a_p1_limit : Nat) (a_p1_dealNames : Nat) (a_p1_year : Nat) (a_p1_memo : Nat) (p1_borrower : Nat → Int32) (p1_borrowerGain : Nat → Int32) (p1_byYear : Nat → Int32) (p1_either : Nat → Int32) (p1_lender : Nat → Int32) (p1_lenderGain : Nat → Int32) (p2 : Int32) (p3 : Int32) (p4 : Int32) (X : jX) (C : jC X l G 8 rm_X2_gather cX2_gather RX2 wsX2_gather) (r : Int32 × (Nat → Int32) × (Nat → Int32) × (Nat → Int32) × (Nat → Int32)) (hE : jE X none none (wd_X2_gather G a_t a_t_borrows a_t_lends a_t_wanted a_t_worth a_p1 a_p1_borrower a_p1_borrowerGain a_p1_byYear a_p1_either a_p1_lender a_p1_lenderGain a_t_room a_t_reach a_t_via r.1 t_chosen r.2.2.2.1 r.2.2.1 r.2.1 r.2.2.2.2 p1_persons p1_deals p1_lawYears p1_toldParts a_p1_personNames a_p1_born a_p1_dies a_p1_limit a_p1_dealNames a_p1_year a_p1_memo p1_borrower p1_borrowerGain p1_byYear p1_either p1_lender p1_lenderGain)) (n : Nat) (IH0 : ∀ (v5 : Int32) (t_going : Int32) (t_wanted : Nat → Int32) (t_lends : Nat → Int32) (t_borrows : Nat → Int32) (t_worth : Nat → Int32), lpN (st_X2_gather p1_borrower p1_borrowerGain p1_byYear p1_either p1_lender p1_lenderGain p2 p4) n (.inl (v5, t_going, t_wanted, t_lends, t_borrows, t_worth)) = some r → J X 0 0 (wd_X2_gather G a_t a_t_borrows a_t_lends a_t_wanted a_t_worth a_p1 a_p1_borrower a_p1_borrowerGain a_p1_byYear a_p1_either a_p1_lender a_p1_lenderGain a_t_room a_t_reach a_t_via t_going t_chosen t_borrows t_lends t_wanted t_worth p1_persons p1_deals p1_lawYears p1_toldParts a_p1_personNames a_p1_born a_p1_dies a_p1_limit a_p1_dealNames a_p1_year a_p1_memo p1_borrower p1_borrowerGain p1_byYear p1_either p1_lender p1_lenderGain) [(0, .ref a_t), (1, .ref a_p1), (2, .int p2), (4, .int p4), (5, .int v5)] 16 []) (IH1 : ∀ (v5 : Int32) (v6 : Int32) (k0 : Int32) (t_going : Int32) (t_wanted : Nat → Int32) (t_lends : Nat → Int32) (t_borrows : Nat → Int32) (t_worth : Nat → Int32), lpN (st_X2_gather p1_borrower p1_borrowerGain p1_byYear p1_either p1_lender p1_lenderGain p2 p4) n (.inr (.inl (v5, v6, k0, t_going, t_wanted, t_lends, t_borrows, t_worth))) = some r → J X 0 0 (wd_X2_gather G a_t a_t_borrows a_t_lends a_t_wanted a_t_worth a_p1 a_p1_borrower a_p1_borrowerGain a_p1_byYear a_p1_either a_p1_lender a_p1_lenderGain a_t_room a_t_reach a_t_via t_going t_chosen t_borrows t_lends t_wanted t_worth p1_persons p1_deals p1_lawYears p1_toldParts a_p1_personNames a_p1_born a_p1_dies a_p1_limit a_p1_dealNames a_p1_year a_p1_memo p1_borrower p1_borrowerGain p1_byYear p1_either p1_lender p1_lenderGain) [(0, .ref a_t), (1, .ref a_p1), (2, .int p2), (4, .int p4), (5, .int v5), (6, .int v6)] 62 [.int k0]) (v5 : Int32) (t_going : Int32) (t_wanted : Nat → Int32) (t_lends : Nat → Int32) (t_borrows : Nat → Int32) (t_worth : Nat → Int32) (hd : lpR (st_X2_gather p1_borrower p1_borrowerGain p1_byYear p1_either p1_lender p1_lenderGain p2 p4) n (bd_X2_gather_0 p1_borrower p1_borrowerGain p1_byYear p1_either p1_lender p1_lenderGain p2 p4 v5 t_going t_wanted t_lends t_borrows t_worth) = some r) : J X 0 0 (wd_X2_gather G a_t a_t_borrows a_t_lends a_t_wanted a_t_worth a_p1 a_p1_borrower a_p1_borrowerGain a_p1_byYear a_p1_either a_p1_lender a_p1_lenderGain a_t_room a_t_reach a_t_via t_going t_chosen t_borrows t_lends t_wanted t_worth p1_persons p1_deals p1_lawYears p1_toldParts a_p1_personNames a_p1_born a_p1_dies a_p1_limit a_p1_dealNames a_p1_year a_p1_memo p1_borrower p1_borrowerGain p1_byYear p1_either p1_lender p1_lenderGain) [(0, .ref a_t), (1, .ref a_p1), (2, .int p2), (4, .int p4), (5, .int v5)] 16 [] := by
  unfold bd_X2_gather_0 at hd
  refine j_iload (pc := 16) C dX2_gather_16 4 rfl ?_
  refine j_iload (pc := 18) C dX2_gather_18 3 rfl ?_
  refine j_icmp_ge (pc := 20) (tgt := 189) C dX2_gather_20 (by decide) (fun c2 => ?_) (fun c2 => ?_)
  · have hd := lp_pos c2 hd
    obtain rfl := Option.some.inj hd
    exact j_vret (pc := 189) C hE dX2_gather_189 rfl rfl
  · have hd := lp_neg c2 hd
    refine j_aload_n (pc := 23) C dX2_gather_23 rfl 1 rfl ?_
    refine j_get (pc := 24) (q0 := 5) (ci := 10) (kf := 15) C dX2_gather_24 in_X2_gather_X10 rfl (by decide) fl_X2_gather_61 rfl rfl ?_
    refine j_iload (pc := 27) C dX2_gather_27 4 rfl ?_
    obtain ⟨h3, hd⟩ := lp_chk hd
    refine j_iald (pc := 29) (q0 := 8) C dX2_gather_29 rfl h3 ?_
    refine j_istore (pc := 30) (lv2 := [(0, .ref a_t), (1, .ref a_p1), (2, .int p2), (4, .int p4), (5, .int v5), (6, .int (p1_byYear (v5).toNatClampNeg))]) C dX2_gather_30 (by decide) [1, 2, 3, 4, 5, 0] rfl ?_
    refine j_aload_n (pc := 32) C dX2_gather_32 rfl 1 rfl ?_
    refine j_iload (pc := 33) C dX2_gather_33 5 rfl ?_
    refine j_iload_n (pc := 35) C dX2_gather_35 rfl 2 rfl ?_
    obtain ⟨q4, eq4, hd⟩ := lp_bind hd
    refine j_callV (pc := 36) (q0 := 5) (ci := 10) (As := [.int (p1_byYear (v5).toNatClampNeg), .int p2]) (rest := []) (st2 := [.int (b2i q4)]) (ws2 := wd_X2_gather G a_t a_t_borrows a_t_lends a_t_wanted a_t_worth a_p1 a_p1_borrower a_p1_borrowerGain a_p1_byYear a_p1_either a_p1_lender a_p1_lenderGain a_t_room a_t_reach a_t_via t_going t_chosen t_borrows t_lends t_wanted t_worth p1_persons p1_deals p1_lawYears p1_toldParts a_p1_personNames a_p1_born a_p1_dies a_p1_limit a_p1_dealNames a_p1_year a_p1_memo p1_borrower p1_borrowerGain p1_byYear p1_either p1_lender p1_lenderGain) C (ct_X10_goesBy l G a_p1 a_p1_borrower a_p1_either a_p1_lender p1_persons p1_deals p1_lawYears p1_toldParts a_p1_personNames a_p1_born a_p1_dies a_p1_limit a_p1_dealNames a_p1_year a_p1_lenderGain a_p1_borrowerGain a_p1_byYear a_p1_memo p1_borrower p1_either p1_lender (p1_byYear (v5).toNatClampNeg) p2 q4 eq4) jy_X10_goesBy dX2_gather_36 gX2_gather_X10_goesBy rfl rfl (by decide) ⟨Nat.zero_le _, Nat.zero_le _⟩ [5, 6, 9, 10] rfl rfl (jpt_eq rfl rfl rfl) rfl rfl rfl (Nat.le_of_ble_eq_true rfl) rfl ?_
    refine j_ifb_eq (pc := 39) (tgt := 183) C dX2_gather_39 (by decide) (fun c5 => ?_) (fun c5 => ?_)
    · have hd := lp_neg c5 hd
      refine j_iinc (pc := 183) (lv2 := [(0, .ref a_t), (1, .ref a_p1), (2, .int p2), (4, .int p4), (5, .int (v5 + 1)), (6, .int (p1_byYear (v5).toNatClampNeg))]) C dX2_gather_183 jk_I1 (by decide) 4 rfl [1, 2, 3, 4, 0, 5] rfl ?_
      refine j_goto (pc := 186) (tgt := 16) C dX2_gather_186 (by decide) ?_
      refine j_sub (lv2 := [(0, .ref a_t), (1, .ref a_p1), (2, .int p2), (4, .int p4), (5, .int (v5 + 1))]) [0, 1, 2, 3, 4] rfl ?_
      exact IH0 (v5 + 1) t_going t_wanted t_lends t_borrows t_worth hd
    · have hd := lp_pos c5 hd
      refine j_iload_n (pc := 42) C dX2_gather_42 rfl 2 rfl ?_
      refine j_aload_n (pc := 43) C dX2_gather_43 rfl 1 rfl ?_
      refine j_get (pc := 44) (q0 := 5) (ci := 10) (kf := 9) C dX2_gather_44 in_X2_gather_X10 rfl (by decide) fl_X2_gather_94 rfl rfl ?_
      refine j_iload (pc := 47) C dX2_gather_47 5 rfl ?_
      obtain ⟨h6, hd⟩ := lp_chk hd
      refine j_iald (pc := 49) (q0 := 10) C dX2_gather_49 rfl h6 ?_
      refine j_ishr (pc := 50) C dX2_gather_50 ?_
      refine j_iconst (pc := 51) (v := 1) C dX2_gather_51 jk_I1 ?_
      refine j_iand (pc := 52) C dX2_gather_52 ?_
      refine j_iconst (pc := 53) (v := 1) C dX2_gather_53 jk_I1 ?_
      refine j_icmp_ne (pc := 54) (tgt := 61) C dX2_gather_54 (by decide) (fun c7 => ?_) (fun c7 => ?_)
      · have hd := lp_neg c7 hd
        refine j_iconst (pc := 61) (v := 0) C dX2_gather_61 jk_I0 ?_
        refine j_sub (lv2 := [(0, .ref a_t), (1, .ref a_p1), (2, .int p2), (4, .int p4), (5, .int v5), (6, .int (p1_byYear (v5).toNatClampNeg))]) [0, 1, 2, 3, 4, 5] rfl ?_
        exact IH1 v5 (p1_byYear (v5).toNatClampNeg) 0 t_going t_wanted t_lends t_borrows t_worth hd
      · have hd := lp_pos c7 hd
        refine j_iconst (pc := 57) (v := 1) C dX2_gather_57 jk_I1 ?_
        refine j_goto (pc := 58) (tgt := 62) C dX2_gather_58 (by decide) ?_
        refine j_sub (lv2 := [(0, .ref a_t), (1, .ref a_p1), (2, .int p2), (4, .int p4), (5, .int v5), (6, .int (p1_byYear (v5).toNatClampNeg))]) [0, 1, 2, 3, 4, 5] rfl ?_
        exact IH1 v5 (p1_byYear (v5).toNatClampNeg) 1 t_going t_wanted t_lends t_borrows t_worth hd
set_option maxHeartbeats 8000000 in
set_option maxRecDepth 100000 in
theorem lb_X2_gather_1 (l : Launch) (G : jG) (a_t : Nat) (a_t_borrows : Nat) (a_t_lends : Nat) (a_t_wanted : Nat) (a_t_worth : Nat) (a_p1 : Nat) (a_p1_borrower : Nat) (a_p1_borrowerGain : Nat) (a_p1_byYear : Nat) (a_p1_either : Nat) (a_p1_lender : Nat) (a_p1_lenderGain : Nat) (a_t_room : Nat) (a_t_reach : Nat) (a_t_via : Nat) (t_chosen : Int32) (p1_persons : Int32) (p1_deals : Int32) (p1_lawYears : Int32) (p1_toldParts : Int32) (a_p1_personNames : Nat) (a_p1_born : Nat) (a_p1_dies : Nat) (a_p1_limit : Nat) (a_p1_dealNames : Nat) (a_p1_year : Nat) (a_p1_memo : Nat) (p1_borrower : Nat → Int32) (p1_borrowerGain : Nat → Int32) (p1_byYear : Nat → Int32) (p1_either : Nat → Int32) (p1_lender : Nat → Int32) (p1_lenderGain : Nat → Int32) (p2 : Int32) (p3 : Int32) (p4 : Int32) (X : jX) (C : jC X l G 8 rm_X2_gather cX2_gather RX2 wsX2_gather) (r : Int32 × (Nat → Int32) × (Nat → Int32) × (Nat → Int32) × (Nat → Int32)) (hE : jE X none none (wd_X2_gather G a_t a_t_borrows a_t_lends a_t_wanted a_t_worth a_p1 a_p1_borrower a_p1_borrowerGain a_p1_byYear a_p1_either a_p1_lender a_p1_lenderGain a_t_room a_t_reach a_t_via r.1 t_chosen r.2.2.2.1 r.2.2.1 r.2.1 r.2.2.2.2 p1_persons p1_deals p1_lawYears p1_toldParts a_p1_personNames a_p1_born a_p1_dies a_p1_limit a_p1_dealNames a_p1_year a_p1_memo p1_borrower p1_borrowerGain p1_byYear p1_either p1_lender p1_lenderGain)) (n : Nat) (IH2 : ∀ (v5 : Int32) (v6 : Int32) (v7 : Int32) (k1 : Int32) (k2 : Int32) (t_going : Int32) (t_wanted : Nat → Int32) (t_lends : Nat → Int32) (t_borrows : Nat → Int32) (t_worth : Nat → Int32), lpN (st_X2_gather p1_borrower p1_borrowerGain p1_byYear p1_either p1_lender p1_lenderGain p2 p4) n (.inr (.inr (.inl (v5, v6, v7, k1, k2, t_going, t_wanted, t_lends, t_borrows, t_worth)))) = some r → J X 0 0 (wd_X2_gather G a_t a_t_borrows a_t_lends a_t_wanted a_t_worth a_p1 a_p1_borrower a_p1_borrowerGain a_p1_byYear a_p1_either a_p1_lender a_p1_lenderGain a_t_room a_t_reach a_t_via t_going t_chosen t_borrows t_lends t_wanted t_worth p1_persons p1_deals p1_lawYears p1_toldParts a_p1_personNames a_p1_born a_p1_dies a_p1_limit a_p1_dealNames a_p1_year a_p1_memo p1_borrower p1_borrowerGain p1_byYear p1_either p1_lender p1_lenderGain) [(0, .ref a_t), (1, .ref a_p1), (2, .int p2), (4, .int p4), (5, .int v5), (6, .int v6), (7, .int v7)] 94 [.int k2, .int k1, .ref a_t_lends]) (v5 : Int32) (v6 : Int32) (k0 : Int32) (t_going : Int32) (t_wanted : Nat → Int32) (t_lends : Nat → Int32) (t_borrows : Nat → Int32) (t_worth : Nat → Int32) (hd : lpR (st_X2_gather p1_borrower p1_borrowerGain p1_byYear p1_either p1_lender p1_lenderGain p2 p4) n (bd_X2_gather_1 p1_borrower p1_borrowerGain p1_byYear p1_either p1_lender p1_lenderGain p2 p4 v5 v6 k0 t_going t_wanted t_lends t_borrows t_worth) = some r) : J X 0 0 (wd_X2_gather G a_t a_t_borrows a_t_lends a_t_wanted a_t_worth a_p1 a_p1_borrower a_p1_borrowerGain a_p1_byYear a_p1_either a_p1_lender a_p1_lenderGain a_t_room a_t_reach a_t_via t_going t_chosen t_borrows t_lends t_wanted t_worth p1_persons p1_deals p1_lawYears p1_toldParts a_p1_personNames a_p1_born a_p1_dies a_p1_limit a_p1_dealNames a_p1_year a_p1_memo p1_borrower p1_borrowerGain p1_byYear p1_either p1_lender p1_lenderGain) [(0, .ref a_t), (1, .ref a_p1), (2, .int p2), (4, .int p4), (5, .int v5), (6, .int v6)] 62 [.int k0] := by
  unfold bd_X2_gather_1 at hd
  refine j_istore (pc := 62) (lv2 := [(0, .ref a_t), (1, .ref a_p1), (2, .int p2), (4, .int p4), (5, .int v5), (6, .int v6), (7, .int k0)]) C dX2_gather_62 (by decide) [1, 2, 3, 4, 5, 6, 0] rfl ?_
  refine j_aload_n (pc := 64) C dX2_gather_64 rfl 0 rfl ?_
  refine j_get (pc := 65) (q0 := 0) (ci := 2) (kf := 0) C dX2_gather_65 in_X2_gather_X2 rfl (by decide) fl_X2_gather_9 rfl rfl ?_
  refine j_aload_n (pc := 68) C dX2_gather_68 rfl 0 rfl ?_
  refine j_get (pc := 69) (q0 := 0) (ci := 2) (kf := 7) C dX2_gather_69 in_X2_gather_X2 rfl (by decide) fl_X2_gather_33 rfl rfl ?_
  refine j_iload (pc := 72) C dX2_gather_72 6 rfl ?_
  refine j_if_eq (pc := 74) (tgt := 87) C dX2_gather_74 (by decide) (fun c8 => ?_) (fun c8 => ?_)
  · have hd := lp_pos c8 hd
    refine j_aload_n (pc := 87) C dX2_gather_87 rfl 1 rfl ?_
    refine j_get (pc := 88) (q0 := 5) (ci := 10) (kf := 10) C dX2_gather_88 in_X2_gather_X10 rfl (by decide) fl_X2_gather_97 rfl rfl ?_
    refine j_iload (pc := 91) C dX2_gather_91 5 rfl ?_
    obtain ⟨h9, hd⟩ := lp_chk hd
    refine j_iald (pc := 93) (q0 := 6) C dX2_gather_93 rfl h9 ?_
    refine j_sub (lv2 := [(0, .ref a_t), (1, .ref a_p1), (2, .int p2), (4, .int p4), (5, .int v5), (6, .int v6), (7, .int k0)]) [0, 1, 2, 3, 4, 5, 6] rfl ?_
    exact IH2 v5 v6 k0 t_going (p1_borrower (v6).toNatClampNeg) t_going t_wanted t_lends t_borrows t_worth hd
  · have hd := lp_neg c8 hd
    refine j_aload_n (pc := 77) C dX2_gather_77 rfl 1 rfl ?_
    refine j_get (pc := 78) (q0 := 5) (ci := 10) (kf := 9) C dX2_gather_78 in_X2_gather_X10 rfl (by decide) fl_X2_gather_94 rfl rfl ?_
    refine j_iload (pc := 81) C dX2_gather_81 5 rfl ?_
    obtain ⟨h10, hd⟩ := lp_chk hd
    refine j_iald (pc := 83) (q0 := 10) C dX2_gather_83 rfl h10 ?_
    refine j_goto (pc := 84) (tgt := 94) C dX2_gather_84 (by decide) ?_
    refine j_sub (lv2 := [(0, .ref a_t), (1, .ref a_p1), (2, .int p2), (4, .int p4), (5, .int v5), (6, .int v6), (7, .int k0)]) [0, 1, 2, 3, 4, 5, 6] rfl ?_
    exact IH2 v5 v6 k0 t_going (p1_lender (v6).toNatClampNeg) t_going t_wanted t_lends t_borrows t_worth hd
set_option maxHeartbeats 8000000 in
set_option maxRecDepth 100000 in
theorem lb_X2_gather_2 (l : Launch) (G : jG) (a_t : Nat) (a_t_borrows : Nat) (a_t_lends : Nat) (a_t_wanted : Nat) (a_t_worth : Nat) (a_p1 : Nat) (a_p1_borrower : Nat) (a_p1_borrowerGain : Nat) (a_p1_byYear : Nat) (a_p1_either : Nat) (a_p1_lender : Nat) (a_p1_lenderGain : Nat) (a_t_room : Nat) (a_t_reach : Nat) (a_t_via : Nat) (t_chosen : Int32) (p1_persons : Int32) (p1_deals : Int32) (p1_lawYears : Int32) (p1_toldParts : Int32) (a_p1_personNames : Nat) (a_p1_born : Nat) (a_p1_dies : Nat) (a_p1_limit : Nat) (a_p1_dealNames : Nat) (a_p1_year : Nat) (a_p1_memo : Nat) (p1_borrower : Nat → Int32) (p1_borrowerGain : Nat → Int32) (p1_byYear : Nat → Int32) (p1_either : Nat → Int32) (p1_lender : Nat → Int32) (p1_lenderGain : Nat → Int32) (p2 : Int32) (p3 : Int32) (p4 : Int32) (X : jX) (C : jC X l G 8 rm_X2_gather cX2_gather RX2 wsX2_gather) (r : Int32 × (Nat → Int32) × (Nat → Int32) × (Nat → Int32) × (Nat → Int32)) (hE : jE X none none (wd_X2_gather G a_t a_t_borrows a_t_lends a_t_wanted a_t_worth a_p1 a_p1_borrower a_p1_borrowerGain a_p1_byYear a_p1_either a_p1_lender a_p1_lenderGain a_t_room a_t_reach a_t_via r.1 t_chosen r.2.2.2.1 r.2.2.1 r.2.1 r.2.2.2.2 p1_persons p1_deals p1_lawYears p1_toldParts a_p1_personNames a_p1_born a_p1_dies a_p1_limit a_p1_dealNames a_p1_year a_p1_memo p1_borrower p1_borrowerGain p1_byYear p1_either p1_lender p1_lenderGain)) (n : Nat) (IH3 : ∀ (v5 : Int32) (v6 : Int32) (k1 : Int32) (k2 : Int32) (t_going : Int32) (t_wanted : Nat → Int32) (t_lends : Nat → Int32) (t_borrows : Nat → Int32) (t_worth : Nat → Int32), lpN (st_X2_gather p1_borrower p1_borrowerGain p1_byYear p1_either p1_lender p1_lenderGain p2 p4) n (.inr (.inr (.inr ((v5, v6, k1, k2, t_going, t_wanted, t_lends, t_borrows, t_worth))))) = some r → J X 0 0 (wd_X2_gather G a_t a_t_borrows a_t_lends a_t_wanted a_t_worth a_p1 a_p1_borrower a_p1_borrowerGain a_p1_byYear a_p1_either a_p1_lender a_p1_lenderGain a_t_room a_t_reach a_t_via t_going t_chosen t_borrows t_lends t_wanted t_worth p1_persons p1_deals p1_lawYears p1_toldParts a_p1_personNames a_p1_born a_p1_dies a_p1_limit a_p1_dealNames a_p1_year a_p1_memo p1_borrower p1_borrowerGain p1_byYear p1_either p1_lender p1_lenderGain) [(0, .ref a_t), (1, .ref a_p1), (2, .int p2), (4, .int p4), (5, .int v5), (6, .int v6)] 125 [.int k2, .int k1, .ref a_t_borrows]) (v5 : Int32) (v6 : Int32) (v7 : Int32) (k1 : Int32) (k2 : Int32) (t_going : Int32) (t_wanted : Nat → Int32) (t_lends : Nat → Int32) (t_borrows : Nat → Int32) (t_worth : Nat → Int32) (hd : lpR (st_X2_gather p1_borrower p1_borrowerGain p1_byYear p1_either p1_lender p1_lenderGain p2 p4) n (bd_X2_gather_2 p1_borrower p1_borrowerGain p1_byYear p1_either p1_lender p1_lenderGain p2 p4 v5 v6 v7 k1 k2 t_going t_wanted t_lends t_borrows t_worth) = some r) : J X 0 0 (wd_X2_gather G a_t a_t_borrows a_t_lends a_t_wanted a_t_worth a_p1 a_p1_borrower a_p1_borrowerGain a_p1_byYear a_p1_either a_p1_lender a_p1_lenderGain a_t_room a_t_reach a_t_via t_going t_chosen t_borrows t_lends t_wanted t_worth p1_persons p1_deals p1_lawYears p1_toldParts a_p1_personNames a_p1_born a_p1_dies a_p1_limit a_p1_dealNames a_p1_year a_p1_memo p1_borrower p1_borrowerGain p1_byYear p1_either p1_lender p1_lenderGain) [(0, .ref a_t), (1, .ref a_p1), (2, .int p2), (4, .int p4), (5, .int v5), (6, .int v6), (7, .int v7)] 94 [.int k2, .int k1, .ref a_t_lends] := by
  unfold bd_X2_gather_2 at hd
  obtain ⟨h11, hd⟩ := lp_chk hd
  refine j_iast (pc := 94) (q0 := 2) (ws2 := wd_X2_gather G a_t a_t_borrows a_t_lends a_t_wanted a_t_worth a_p1 a_p1_borrower a_p1_borrowerGain a_p1_byYear a_p1_either a_p1_lender a_p1_lenderGain a_t_room a_t_reach a_t_via t_going t_chosen t_borrows (upd t_lends (k1).toNatClampNeg k2) t_wanted t_worth p1_persons p1_deals p1_lawYears p1_toldParts a_p1_personNames a_p1_born a_p1_dies a_p1_limit a_p1_dealNames a_p1_year a_p1_memo p1_borrower p1_borrowerGain p1_byYear p1_either p1_lender p1_lenderGain) C dX2_gather_94 rfl h11 rfl ?_
  refine j_aload_n (pc := 95) C dX2_gather_95 rfl 0 rfl ?_
  refine j_get (pc := 96) (q0 := 0) (ci := 2) (kf := 1) C dX2_gather_96 in_X2_gather_X2 rfl (by decide) fl_X2_gather_15 rfl rfl ?_
  refine j_aload_n (pc := 99) C dX2_gather_99 rfl 0 rfl ?_
  refine j_get (pc := 100) (q0 := 0) (ci := 2) (kf := 7) C dX2_gather_100 in_X2_gather_X2 rfl (by decide) fl_X2_gather_33 rfl rfl ?_
  refine j_iload (pc := 103) C dX2_gather_103 6 rfl ?_
  refine j_if_eq (pc := 105) (tgt := 118) C dX2_gather_105 (by decide) (fun c12 => ?_) (fun c12 => ?_)
  · have hd := lp_pos c12 hd
    refine j_aload_n (pc := 118) C dX2_gather_118 rfl 1 rfl ?_
    refine j_get (pc := 119) (q0 := 5) (ci := 10) (kf := 9) C dX2_gather_119 in_X2_gather_X10 rfl (by decide) fl_X2_gather_94 rfl rfl ?_
    refine j_iload (pc := 122) C dX2_gather_122 5 rfl ?_
    obtain ⟨h13, hd⟩ := lp_chk hd
    refine j_iald (pc := 124) (q0 := 10) C dX2_gather_124 rfl h13 ?_
    refine j_sub (lv2 := [(0, .ref a_t), (1, .ref a_p1), (2, .int p2), (4, .int p4), (5, .int v5), (6, .int v6)]) [0, 1, 2, 3, 4, 5] rfl ?_
    exact IH3 v5 v6 t_going (p1_lender (v6).toNatClampNeg) t_going t_wanted (upd t_lends (k1).toNatClampNeg k2) t_borrows t_worth hd
  · have hd := lp_neg c12 hd
    refine j_aload_n (pc := 108) C dX2_gather_108 rfl 1 rfl ?_
    refine j_get (pc := 109) (q0 := 5) (ci := 10) (kf := 10) C dX2_gather_109 in_X2_gather_X10 rfl (by decide) fl_X2_gather_97 rfl rfl ?_
    refine j_iload (pc := 112) C dX2_gather_112 5 rfl ?_
    obtain ⟨h14, hd⟩ := lp_chk hd
    refine j_iald (pc := 114) (q0 := 6) C dX2_gather_114 rfl h14 ?_
    refine j_goto (pc := 115) (tgt := 125) C dX2_gather_115 (by decide) ?_
    refine j_sub (lv2 := [(0, .ref a_t), (1, .ref a_p1), (2, .int p2), (4, .int p4), (5, .int v5), (6, .int v6)]) [0, 1, 2, 3, 4, 5] rfl ?_
    exact IH3 v5 v6 t_going (p1_borrower (v6).toNatClampNeg) t_going t_wanted (upd t_lends (k1).toNatClampNeg k2) t_borrows t_worth hd
set_option maxHeartbeats 8000000 in
set_option maxRecDepth 100000 in
theorem lb_X2_gather_3 (l : Launch) (G : jG) (a_t : Nat) (a_t_borrows : Nat) (a_t_lends : Nat) (a_t_wanted : Nat) (a_t_worth : Nat) (a_p1 : Nat) (a_p1_borrower : Nat) (a_p1_borrowerGain : Nat) (a_p1_byYear : Nat) (a_p1_either : Nat) (a_p1_lender : Nat) (a_p1_lenderGain : Nat) (a_t_room : Nat) (a_t_reach : Nat) (a_t_via : Nat) (t_chosen : Int32) (p1_persons : Int32) (p1_deals : Int32) (p1_lawYears : Int32) (p1_toldParts : Int32) (a_p1_personNames : Nat) (a_p1_born : Nat) (a_p1_dies : Nat) (a_p1_limit : Nat) (a_p1_dealNames : Nat) (a_p1_year : Nat) (a_p1_memo : Nat) (p1_borrower : Nat → Int32) (p1_borrowerGain : Nat → Int32) (p1_byYear : Nat → Int32) (p1_either : Nat → Int32) (p1_lender : Nat → Int32) (p1_lenderGain : Nat → Int32) (p2 : Int32) (p3 : Int32) (p4 : Int32) (X : jX) (C : jC X l G 8 rm_X2_gather cX2_gather RX2 wsX2_gather) (r : Int32 × (Nat → Int32) × (Nat → Int32) × (Nat → Int32) × (Nat → Int32)) (hE : jE X none none (wd_X2_gather G a_t a_t_borrows a_t_lends a_t_wanted a_t_worth a_p1 a_p1_borrower a_p1_borrowerGain a_p1_byYear a_p1_either a_p1_lender a_p1_lenderGain a_t_room a_t_reach a_t_via r.1 t_chosen r.2.2.2.1 r.2.2.1 r.2.1 r.2.2.2.2 p1_persons p1_deals p1_lawYears p1_toldParts a_p1_personNames a_p1_born a_p1_dies a_p1_limit a_p1_dealNames a_p1_year a_p1_memo p1_borrower p1_borrowerGain p1_byYear p1_either p1_lender p1_lenderGain)) (n : Nat) (IH0 : ∀ (v5 : Int32) (t_going : Int32) (t_wanted : Nat → Int32) (t_lends : Nat → Int32) (t_borrows : Nat → Int32) (t_worth : Nat → Int32), lpN (st_X2_gather p1_borrower p1_borrowerGain p1_byYear p1_either p1_lender p1_lenderGain p2 p4) n (.inl (v5, t_going, t_wanted, t_lends, t_borrows, t_worth)) = some r → J X 0 0 (wd_X2_gather G a_t a_t_borrows a_t_lends a_t_wanted a_t_worth a_p1 a_p1_borrower a_p1_borrowerGain a_p1_byYear a_p1_either a_p1_lender a_p1_lenderGain a_t_room a_t_reach a_t_via t_going t_chosen t_borrows t_lends t_wanted t_worth p1_persons p1_deals p1_lawYears p1_toldParts a_p1_personNames a_p1_born a_p1_dies a_p1_limit a_p1_dealNames a_p1_year a_p1_memo p1_borrower p1_borrowerGain p1_byYear p1_either p1_lender p1_lenderGain) [(0, .ref a_t), (1, .ref a_p1), (2, .int p2), (4, .int p4), (5, .int v5)] 16 []) (v5 : Int32) (v6 : Int32) (k1 : Int32) (k2 : Int32) (t_going : Int32) (t_wanted : Nat → Int32) (t_lends : Nat → Int32) (t_borrows : Nat → Int32) (t_worth : Nat → Int32) (hd : lpR (st_X2_gather p1_borrower p1_borrowerGain p1_byYear p1_either p1_lender p1_lenderGain p2 p4) n (bd_X2_gather_3 p1_borrower p1_borrowerGain p1_byYear p1_either p1_lender p1_lenderGain p2 p4 v5 v6 k1 k2 t_going t_wanted t_lends t_borrows t_worth) = some r) : J X 0 0 (wd_X2_gather G a_t a_t_borrows a_t_lends a_t_wanted a_t_worth a_p1 a_p1_borrower a_p1_borrowerGain a_p1_byYear a_p1_either a_p1_lender a_p1_lenderGain a_t_room a_t_reach a_t_via t_going t_chosen t_borrows t_lends t_wanted t_worth p1_persons p1_deals p1_lawYears p1_toldParts a_p1_personNames a_p1_born a_p1_dies a_p1_limit a_p1_dealNames a_p1_year a_p1_memo p1_borrower p1_borrowerGain p1_byYear p1_either p1_lender p1_lenderGain) [(0, .ref a_t), (1, .ref a_p1), (2, .int p2), (4, .int p4), (5, .int v5), (6, .int v6)] 125 [.int k2, .int k1, .ref a_t_borrows] := by
  unfold bd_X2_gather_3 at hd
  obtain ⟨h15, hd⟩ := lp_chk hd
  refine j_iast (pc := 125) (q0 := 1) (ws2 := wd_X2_gather G a_t a_t_borrows a_t_lends a_t_wanted a_t_worth a_p1 a_p1_borrower a_p1_borrowerGain a_p1_byYear a_p1_either a_p1_lender a_p1_lenderGain a_t_room a_t_reach a_t_via t_going t_chosen (upd t_borrows (k1).toNatClampNeg k2) t_lends t_wanted t_worth p1_persons p1_deals p1_lawYears p1_toldParts a_p1_personNames a_p1_born a_p1_dies a_p1_limit a_p1_dealNames a_p1_year a_p1_memo p1_borrower p1_borrowerGain p1_byYear p1_either p1_lender p1_lenderGain) C dX2_gather_125 rfl h15 rfl ?_
  refine j_aload_n (pc := 126) C dX2_gather_126 rfl 0 rfl ?_
  refine j_get (pc := 127) (q0 := 0) (ci := 2) (kf := 2) C dX2_gather_127 in_X2_gather_X2 rfl (by decide) fl_X2_gather_18 rfl rfl ?_
  refine j_aload_n (pc := 130) C dX2_gather_130 rfl 0 rfl ?_
  refine j_get (pc := 131) (q0 := 0) (ci := 2) (kf := 7) C dX2_gather_131 in_X2_gather_X2 rfl (by decide) fl_X2_gather_33 rfl rfl ?_
  refine j_aload_n (pc := 134) C dX2_gather_134 rfl 1 rfl ?_
  refine j_iload (pc := 135) C dX2_gather_135 5 rfl ?_
  obtain ⟨q16, eq16, hd⟩ := lp_bind hd
  refine j_callV (pc := 137) (q0 := 5) (ci := 10) (As := [.int v6]) (rest := [.int t_going, .ref a_t_worth]) (st2 := [.int q16, .int t_going, .ref a_t_worth]) (ws2 := wd_X2_gather G a_t a_t_borrows a_t_lends a_t_wanted a_t_worth a_p1 a_p1_borrower a_p1_borrowerGain a_p1_byYear a_p1_either a_p1_lender a_p1_lenderGain a_t_room a_t_reach a_t_via t_going t_chosen (upd t_borrows (k1).toNatClampNeg k2) t_lends t_wanted t_worth p1_persons p1_deals p1_lawYears p1_toldParts a_p1_personNames a_p1_born a_p1_dies a_p1_limit a_p1_dealNames a_p1_year a_p1_memo p1_borrower p1_borrowerGain p1_byYear p1_either p1_lender p1_lenderGain) C (ct_X10_bothShares l G a_p1 a_p1_borrowerGain a_p1_lenderGain p1_persons p1_deals p1_lawYears p1_toldParts a_p1_personNames a_p1_born a_p1_dies a_p1_limit a_p1_dealNames a_p1_lender a_p1_borrower a_p1_year a_p1_either a_p1_byYear a_p1_memo p1_borrowerGain p1_lenderGain v6 q16 eq16) jy_X10_bothShares dX2_gather_137 gX2_gather_X10_bothShares rfl rfl (by decide) ⟨Nat.zero_le _, Nat.zero_le _⟩ [5, 7, 11] rfl rfl (jpt_eq rfl rfl rfl) rfl rfl rfl (Nat.le_of_ble_eq_true rfl) rfl ?_
  obtain ⟨h17, hd⟩ := lp_chk hd
  refine j_iast (pc := 140) (q0 := 4) (ws2 := wd_X2_gather G a_t a_t_borrows a_t_lends a_t_wanted a_t_worth a_p1 a_p1_borrower a_p1_borrowerGain a_p1_byYear a_p1_either a_p1_lender a_p1_lenderGain a_t_room a_t_reach a_t_via t_going t_chosen (upd t_borrows (k1).toNatClampNeg k2) t_lends t_wanted (upd t_worth (t_going).toNatClampNeg q16) p1_persons p1_deals p1_lawYears p1_toldParts a_p1_personNames a_p1_born a_p1_dies a_p1_limit a_p1_dealNames a_p1_year a_p1_memo p1_borrower p1_borrowerGain p1_byYear p1_either p1_lender p1_lenderGain) C dX2_gather_140 rfl h17 rfl ?_
  refine j_aload_n (pc := 141) C dX2_gather_141 rfl 0 rfl ?_
  refine j_get (pc := 142) (q0 := 0) (ci := 2) (kf := 3) C dX2_gather_142 in_X2_gather_X2 rfl (by decide) fl_X2_gather_21 rfl rfl ?_
  refine j_aload_n (pc := 145) C dX2_gather_145 rfl 1 rfl ?_
  refine j_get (pc := 146) (q0 := 5) (ci := 10) (kf := 9) C dX2_gather_146 in_X2_gather_X10 rfl (by decide) fl_X2_gather_94 rfl rfl ?_
  refine j_iload (pc := 149) C dX2_gather_149 5 rfl ?_
  obtain ⟨h18, hd⟩ := lp_chk hd
  refine j_iald (pc := 151) (q0 := 10) C dX2_gather_151 rfl h18 ?_
  refine j_dup2 (pc := 152) C dX2_gather_152 rfl rfl ?_
  obtain ⟨h19, hd⟩ := lp_chk hd
  refine j_iald (pc := 153) (q0 := 3) C dX2_gather_153 rfl h19 ?_
  refine j_iconst (pc := 154) (v := 1) C dX2_gather_154 jk_I1 ?_
  refine j_iadd (pc := 155) C dX2_gather_155 ?_
  obtain ⟨h20, hd⟩ := lp_chk hd
  refine j_iast (pc := 156) (q0 := 3) (ws2 := wd_X2_gather G a_t a_t_borrows a_t_lends a_t_wanted a_t_worth a_p1 a_p1_borrower a_p1_borrowerGain a_p1_byYear a_p1_either a_p1_lender a_p1_lenderGain a_t_room a_t_reach a_t_via t_going t_chosen (upd t_borrows (k1).toNatClampNeg k2) t_lends (upd t_wanted (p1_lender (v6).toNatClampNeg).toNatClampNeg ((t_wanted ((p1_lender (v6).toNatClampNeg)).toNatClampNeg) + 1)) (upd t_worth (t_going).toNatClampNeg q16) p1_persons p1_deals p1_lawYears p1_toldParts a_p1_personNames a_p1_born a_p1_dies a_p1_limit a_p1_dealNames a_p1_year a_p1_memo p1_borrower p1_borrowerGain p1_byYear p1_either p1_lender p1_lenderGain) C dX2_gather_156 rfl h20 rfl ?_
  refine j_aload_n (pc := 157) C dX2_gather_157 rfl 0 rfl ?_
  refine j_get (pc := 158) (q0 := 0) (ci := 2) (kf := 3) C dX2_gather_158 in_X2_gather_X2 rfl (by decide) fl_X2_gather_21 rfl rfl ?_
  refine j_aload_n (pc := 161) C dX2_gather_161 rfl 1 rfl ?_
  refine j_get (pc := 162) (q0 := 5) (ci := 10) (kf := 10) C dX2_gather_162 in_X2_gather_X10 rfl (by decide) fl_X2_gather_97 rfl rfl ?_
  refine j_iload (pc := 165) C dX2_gather_165 5 rfl ?_
  obtain ⟨h21, hd⟩ := lp_chk hd
  refine j_iald (pc := 167) (q0 := 6) C dX2_gather_167 rfl h21 ?_
  refine j_dup2 (pc := 168) C dX2_gather_168 rfl rfl ?_
  obtain ⟨h22, hd⟩ := lp_chk hd
  refine j_iald (pc := 169) (q0 := 3) C dX2_gather_169 rfl h22 ?_
  refine j_iconst (pc := 170) (v := 1) C dX2_gather_170 jk_I1 ?_
  refine j_iadd (pc := 171) C dX2_gather_171 ?_
  obtain ⟨h23, hd⟩ := lp_chk hd
  refine j_iast (pc := 172) (q0 := 3) (ws2 := wd_X2_gather G a_t a_t_borrows a_t_lends a_t_wanted a_t_worth a_p1 a_p1_borrower a_p1_borrowerGain a_p1_byYear a_p1_either a_p1_lender a_p1_lenderGain a_t_room a_t_reach a_t_via t_going t_chosen (upd t_borrows (k1).toNatClampNeg k2) t_lends (upd (upd t_wanted (p1_lender (v6).toNatClampNeg).toNatClampNeg ((t_wanted ((p1_lender (v6).toNatClampNeg)).toNatClampNeg) + 1)) (p1_borrower (v6).toNatClampNeg).toNatClampNeg (((upd t_wanted (p1_lender (v6).toNatClampNeg).toNatClampNeg ((t_wanted ((p1_lender (v6).toNatClampNeg)).toNatClampNeg) + 1)) ((p1_borrower (v6).toNatClampNeg)).toNatClampNeg) + 1)) (upd t_worth (t_going).toNatClampNeg q16) p1_persons p1_deals p1_lawYears p1_toldParts a_p1_personNames a_p1_born a_p1_dies a_p1_limit a_p1_dealNames a_p1_year a_p1_memo p1_borrower p1_borrowerGain p1_byYear p1_either p1_lender p1_lenderGain) C dX2_gather_172 rfl h23 rfl ?_
  refine j_aload_n (pc := 173) C dX2_gather_173 rfl 0 rfl ?_
  refine j_dup (pc := 174) C dX2_gather_174 rfl ?_
  refine j_get (pc := 175) (q0 := 0) (ci := 2) (kf := 7) C dX2_gather_175 in_X2_gather_X2 rfl (by decide) fl_X2_gather_33 rfl rfl ?_
  refine j_iconst (pc := 178) (v := 1) C dX2_gather_178 jk_I1 ?_
  refine j_iadd (pc := 179) C dX2_gather_179 ?_
  refine j_put (pc := 180) (q0 := 0) (ci := 2) (kf := 7) (ws2 := wd_X2_gather G a_t a_t_borrows a_t_lends a_t_wanted a_t_worth a_p1 a_p1_borrower a_p1_borrowerGain a_p1_byYear a_p1_either a_p1_lender a_p1_lenderGain a_t_room a_t_reach a_t_via (t_going + 1) t_chosen (upd t_borrows (k1).toNatClampNeg k2) t_lends (upd (upd t_wanted (p1_lender (v6).toNatClampNeg).toNatClampNeg ((t_wanted ((p1_lender (v6).toNatClampNeg)).toNatClampNeg) + 1)) (p1_borrower (v6).toNatClampNeg).toNatClampNeg (((upd t_wanted (p1_lender (v6).toNatClampNeg).toNatClampNeg ((t_wanted ((p1_lender (v6).toNatClampNeg)).toNatClampNeg) + 1)) ((p1_borrower (v6).toNatClampNeg)).toNatClampNeg) + 1)) (upd t_worth (t_going).toNatClampNeg q16) p1_persons p1_deals p1_lawYears p1_toldParts a_p1_personNames a_p1_born a_p1_dies a_p1_limit a_p1_dealNames a_p1_year a_p1_memo p1_borrower p1_borrowerGain p1_byYear p1_either p1_lender p1_lenderGain) C dX2_gather_180 in_X2_gather_X2 tyX2 tyX2_ok nmX2 rfl (by decide) fl_X2_gather_33 rfl rfl rfl rfl (Nat.le_of_ble_eq_true rfl) rfl ?_
  refine j_iinc (pc := 183) (lv2 := [(0, .ref a_t), (1, .ref a_p1), (2, .int p2), (4, .int p4), (5, .int (v5 + 1)), (6, .int v6)]) C dX2_gather_183 jk_I1 (by decide) 4 rfl [1, 2, 3, 4, 0, 5] rfl ?_
  refine j_goto (pc := 186) (tgt := 16) C dX2_gather_186 (by decide) ?_
  refine j_sub (lv2 := [(0, .ref a_t), (1, .ref a_p1), (2, .int p2), (4, .int p4), (5, .int (v5 + 1))]) [0, 1, 2, 3, 4] rfl ?_
  exact IH0 (v5 + 1) (t_going + 1) (upd (upd t_wanted (p1_lender (v6).toNatClampNeg).toNatClampNeg ((t_wanted ((p1_lender (v6).toNatClampNeg)).toNatClampNeg) + 1)) (p1_borrower (v6).toNatClampNeg).toNatClampNeg (((upd t_wanted (p1_lender (v6).toNatClampNeg).toNatClampNeg ((t_wanted ((p1_lender (v6).toNatClampNeg)).toNatClampNeg) + 1)) ((p1_borrower (v6).toNatClampNeg)).toNatClampNeg) + 1)) t_lends (upd t_borrows (k1).toNatClampNeg k2) (upd t_worth (t_going).toNatClampNeg q16) hd
set_option maxHeartbeats 8000000 in
set_option maxRecDepth 100000 in
theorem la_X2_gather (l : Launch) (G : jG) (a_t : Nat) (a_t_borrows : Nat) (a_t_lends : Nat) (a_t_wanted : Nat) (a_t_worth : Nat) (a_p1 : Nat) (a_p1_borrower : Nat) (a_p1_borrowerGain : Nat) (a_p1_byYear : Nat) (a_p1_either : Nat) (a_p1_lender : Nat) (a_p1_lenderGain : Nat) (a_t_room : Nat) (a_t_reach : Nat) (a_t_via : Nat) (t_chosen : Int32) (p1_persons : Int32) (p1_deals : Int32) (p1_lawYears : Int32) (p1_toldParts : Int32) (a_p1_personNames : Nat) (a_p1_born : Nat) (a_p1_dies : Nat) (a_p1_limit : Nat) (a_p1_dealNames : Nat) (a_p1_year : Nat) (a_p1_memo : Nat) (p1_borrower : Nat → Int32) (p1_borrowerGain : Nat → Int32) (p1_byYear : Nat → Int32) (p1_either : Nat → Int32) (p1_lender : Nat → Int32) (p1_lenderGain : Nat → Int32) (p2 : Int32) (p3 : Int32) (p4 : Int32) (X : jX) (C : jC X l G 8 rm_X2_gather cX2_gather RX2 wsX2_gather) (r : Int32 × (Nat → Int32) × (Nat → Int32) × (Nat → Int32) × (Nat → Int32)) (hE : jE X none none (wd_X2_gather G a_t a_t_borrows a_t_lends a_t_wanted a_t_worth a_p1 a_p1_borrower a_p1_borrowerGain a_p1_byYear a_p1_either a_p1_lender a_p1_lenderGain a_t_room a_t_reach a_t_via r.1 t_chosen r.2.2.2.1 r.2.2.1 r.2.1 r.2.2.2.2 p1_persons p1_deals p1_lawYears p1_toldParts a_p1_personNames a_p1_born a_p1_dies a_p1_limit a_p1_dealNames a_p1_year a_p1_memo p1_borrower p1_borrowerGain p1_byYear p1_either p1_lender p1_lenderGain)) (n : Nat) : (∀ (v5 : Int32) (t_going : Int32) (t_wanted : Nat → Int32) (t_lends : Nat → Int32) (t_borrows : Nat → Int32) (t_worth : Nat → Int32), lpN (st_X2_gather p1_borrower p1_borrowerGain p1_byYear p1_either p1_lender p1_lenderGain p2 p4) n (.inl (v5, t_going, t_wanted, t_lends, t_borrows, t_worth)) = some r → J X 0 0 (wd_X2_gather G a_t a_t_borrows a_t_lends a_t_wanted a_t_worth a_p1 a_p1_borrower a_p1_borrowerGain a_p1_byYear a_p1_either a_p1_lender a_p1_lenderGain a_t_room a_t_reach a_t_via t_going t_chosen t_borrows t_lends t_wanted t_worth p1_persons p1_deals p1_lawYears p1_toldParts a_p1_personNames a_p1_born a_p1_dies a_p1_limit a_p1_dealNames a_p1_year a_p1_memo p1_borrower p1_borrowerGain p1_byYear p1_either p1_lender p1_lenderGain) [(0, .ref a_t), (1, .ref a_p1), (2, .int p2), (4, .int p4), (5, .int v5)] 16 []) ∧ (∀ (v5 : Int32) (v6 : Int32) (k0 : Int32) (t_going : Int32) (t_wanted : Nat → Int32) (t_lends : Nat → Int32) (t_borrows : Nat → Int32) (t_worth : Nat → Int32), lpN (st_X2_gather p1_borrower p1_borrowerGain p1_byYear p1_either p1_lender p1_lenderGain p2 p4) n (.inr (.inl (v5, v6, k0, t_going, t_wanted, t_lends, t_borrows, t_worth))) = some r → J X 0 0 (wd_X2_gather G a_t a_t_borrows a_t_lends a_t_wanted a_t_worth a_p1 a_p1_borrower a_p1_borrowerGain a_p1_byYear a_p1_either a_p1_lender a_p1_lenderGain a_t_room a_t_reach a_t_via t_going t_chosen t_borrows t_lends t_wanted t_worth p1_persons p1_deals p1_lawYears p1_toldParts a_p1_personNames a_p1_born a_p1_dies a_p1_limit a_p1_dealNames a_p1_year a_p1_memo p1_borrower p1_borrowerGain p1_byYear p1_either p1_lender p1_lenderGain) [(0, .ref a_t), (1, .ref a_p1), (2, .int p2), (4, .int p4), (5, .int v5), (6, .int v6)] 62 [.int k0]) ∧ (∀ (v5 : Int32) (v6 : Int32) (v7 : Int32) (k1 : Int32) (k2 : Int32) (t_going : Int32) (t_wanted : Nat → Int32) (t_lends : Nat → Int32) (t_borrows : Nat → Int32) (t_worth : Nat → Int32), lpN (st_X2_gather p1_borrower p1_borrowerGain p1_byYear p1_either p1_lender p1_lenderGain p2 p4) n (.inr (.inr (.inl (v5, v6, v7, k1, k2, t_going, t_wanted, t_lends, t_borrows, t_worth)))) = some r → J X 0 0 (wd_X2_gather G a_t a_t_borrows a_t_lends a_t_wanted a_t_worth a_p1 a_p1_borrower a_p1_borrowerGain a_p1_byYear a_p1_either a_p1_lender a_p1_lenderGain a_t_room a_t_reach a_t_via t_going t_chosen t_borrows t_lends t_wanted t_worth p1_persons p1_deals p1_lawYears p1_toldParts a_p1_personNames a_p1_born a_p1_dies a_p1_limit a_p1_dealNames a_p1_year a_p1_memo p1_borrower p1_borrowerGain p1_byYear p1_either p1_lender p1_lenderGain) [(0, .ref a_t), (1, .ref a_p1), (2, .int p2), (4, .int p4), (5, .int v5), (6, .int v6), (7, .int v7)] 94 [.int k2, .int k1, .ref a_t_lends]) ∧ (∀ (v5 : Int32) (v6 : Int32) (k1 : Int32) (k2 : Int32) (t_going : Int32) (t_wanted : Nat → Int32) (t_lends : Nat → Int32) (t_borrows : Nat → Int32) (t_worth : Nat → Int32), lpN (st_X2_gather p1_borrower p1_borrowerGain p1_byYear p1_either p1_lender p1_lenderGain p2 p4) n (.inr (.inr (.inr ((v5, v6, k1, k2, t_going, t_wanted, t_lends, t_borrows, t_worth))))) = some r → J X 0 0 (wd_X2_gather G a_t a_t_borrows a_t_lends a_t_wanted a_t_worth a_p1 a_p1_borrower a_p1_borrowerGain a_p1_byYear a_p1_either a_p1_lender a_p1_lenderGain a_t_room a_t_reach a_t_via t_going t_chosen t_borrows t_lends t_wanted t_worth p1_persons p1_deals p1_lawYears p1_toldParts a_p1_personNames a_p1_born a_p1_dies a_p1_limit a_p1_dealNames a_p1_year a_p1_memo p1_borrower p1_borrowerGain p1_byYear p1_either p1_lender p1_lenderGain) [(0, .ref a_t), (1, .ref a_p1), (2, .int p2), (4, .int p4), (5, .int v5), (6, .int v6)] 125 [.int k2, .int k1, .ref a_t_borrows]) := by
  induction n with
  | zero => exact ⟨(fun v5 t_going t_wanted t_lends t_borrows t_worth h => by cases h), (fun v5 v6 k0 t_going t_wanted t_lends t_borrows t_worth h => by cases h), (fun v5 v6 v7 k1 k2 t_going t_wanted t_lends t_borrows t_worth h => by cases h), (fun v5 v6 k1 k2 t_going t_wanted t_lends t_borrows t_worth h => by cases h)⟩
  | succ n ih => exact ⟨(fun v5 t_going t_wanted t_lends t_borrows t_worth h => lb_X2_gather_0 l G a_t a_t_borrows a_t_lends a_t_wanted a_t_worth a_p1 a_p1_borrower a_p1_borrowerGain a_p1_byYear a_p1_either a_p1_lender a_p1_lenderGain a_t_room a_t_reach a_t_via t_chosen p1_persons p1_deals p1_lawYears p1_toldParts a_p1_personNames a_p1_born a_p1_dies a_p1_limit a_p1_dealNames a_p1_year a_p1_memo p1_borrower p1_borrowerGain p1_byYear p1_either p1_lender p1_lenderGain p2 p3 p4 X C r hE n (ih.1) (ih.2.1) v5 t_going t_wanted t_lends t_borrows t_worth (by rw [lpN_succ] at h; exact h)), (fun v5 v6 k0 t_going t_wanted t_lends t_borrows t_worth h => lb_X2_gather_1 l G a_t a_t_borrows a_t_lends a_t_wanted a_t_worth a_p1 a_p1_borrower a_p1_borrowerGain a_p1_byYear a_p1_either a_p1_lender a_p1_lenderGain a_t_room a_t_reach a_t_via t_chosen p1_persons p1_deals p1_lawYears p1_toldParts a_p1_personNames a_p1_born a_p1_dies a_p1_limit a_p1_dealNames a_p1_year a_p1_memo p1_borrower p1_borrowerGain p1_byYear p1_either p1_lender p1_lenderGain p2 p3 p4 X C r hE n (ih.2.2.1) v5 v6 k0 t_going t_wanted t_lends t_borrows t_worth (by rw [lpN_succ] at h; exact h)), (fun v5 v6 v7 k1 k2 t_going t_wanted t_lends t_borrows t_worth h => lb_X2_gather_2 l G a_t a_t_borrows a_t_lends a_t_wanted a_t_worth a_p1 a_p1_borrower a_p1_borrowerGain a_p1_byYear a_p1_either a_p1_lender a_p1_lenderGain a_t_room a_t_reach a_t_via t_chosen p1_persons p1_deals p1_lawYears p1_toldParts a_p1_personNames a_p1_born a_p1_dies a_p1_limit a_p1_dealNames a_p1_year a_p1_memo p1_borrower p1_borrowerGain p1_byYear p1_either p1_lender p1_lenderGain p2 p3 p4 X C r hE n (ih.2.2.2) v5 v6 v7 k1 k2 t_going t_wanted t_lends t_borrows t_worth (by rw [lpN_succ] at h; exact h)), (fun v5 v6 k1 k2 t_going t_wanted t_lends t_borrows t_worth h => lb_X2_gather_3 l G a_t a_t_borrows a_t_lends a_t_wanted a_t_worth a_p1 a_p1_borrower a_p1_borrowerGain a_p1_byYear a_p1_either a_p1_lender a_p1_lenderGain a_t_room a_t_reach a_t_via t_chosen p1_persons p1_deals p1_lawYears p1_toldParts a_p1_personNames a_p1_born a_p1_dies a_p1_limit a_p1_dealNames a_p1_year a_p1_memo p1_borrower p1_borrowerGain p1_byYear p1_either p1_lender p1_lenderGain p2 p3 p4 X C r hE n (ih.1) v5 v6 k1 k2 t_going t_wanted t_lends t_borrows t_worth (by rw [lpN_succ] at h; exact h))⟩
set_option maxHeartbeats 8000000 in
set_option maxRecDepth 100000 in
theorem ct_X2_gather (l : Launch) (G : jG) (a_t : Nat) (a_t_borrows : Nat) (a_t_lends : Nat) (a_t_wanted : Nat) (a_t_worth : Nat) (a_p1 : Nat) (a_p1_borrower : Nat) (a_p1_borrowerGain : Nat) (a_p1_byYear : Nat) (a_p1_either : Nat) (a_p1_lender : Nat) (a_p1_lenderGain : Nat) (a_t_room : Nat) (a_t_reach : Nat) (a_t_via : Nat) (t_going : Int32) (t_chosen : Int32) (t_borrows : Nat → Int32) (t_lends : Nat → Int32) (t_wanted : Nat → Int32) (t_worth : Nat → Int32) (p1_persons : Int32) (p1_deals : Int32) (p1_lawYears : Int32) (p1_toldParts : Int32) (a_p1_personNames : Nat) (a_p1_born : Nat) (a_p1_dies : Nat) (a_p1_limit : Nat) (a_p1_dealNames : Nat) (a_p1_year : Nat) (a_p1_memo : Nat) (p1_borrower : Nat → Int32) (p1_borrowerGain : Nat → Int32) (p1_byYear : Nat → Int32) (p1_either : Nat → Int32) (p1_lender : Nat → Int32) (p1_lenderGain : Nat → Int32) (p2 : Int32) (p3 : Int32) (p4 : Int32) (r : Int32 × (Nat → Int32) × (Nat → Int32) × (Nat → Int32) × (Nat → Int32)) (hd : dn_X2_gather t_borrows t_lends t_wanted t_worth p1_borrower p1_borrowerGain p1_byYear p1_either p1_lender p1_lenderGain p2 p3 p4 = some r) : jM l G yX2_gather wsX2_gather rm_X2_gather [.ref a_t, .ref a_p1, .int p2, .int p3, .int p4] (wd_X2_gather G a_t a_t_borrows a_t_lends a_t_wanted a_t_worth a_p1 a_p1_borrower a_p1_borrowerGain a_p1_byYear a_p1_either a_p1_lender a_p1_lenderGain a_t_room a_t_reach a_t_via t_going t_chosen t_borrows t_lends t_wanted t_worth p1_persons p1_deals p1_lawYears p1_toldParts a_p1_personNames a_p1_born a_p1_dies a_p1_limit a_p1_dealNames a_p1_year a_p1_memo p1_borrower p1_borrowerGain p1_byYear p1_either p1_lender p1_lenderGain) none (wd_X2_gather G a_t a_t_borrows a_t_lends a_t_wanted a_t_worth a_p1 a_p1_borrower a_p1_borrowerGain a_p1_byYear a_p1_either a_p1_lender a_p1_lenderGain a_t_room a_t_reach a_t_via r.1 t_chosen r.2.2.2.1 r.2.2.1 r.2.1 r.2.2.2.2 p1_persons p1_deals p1_lawYears p1_toldParts a_p1_personNames a_p1_born a_p1_dies a_p1_limit a_p1_dealNames a_p1_year a_p1_memo p1_borrower p1_borrowerGain p1_byYear p1_either p1_lender p1_lenderGain) := by
  refine jM_of (own := RX2) (by decide) rfl rfl rfl (Nat.le_of_ble_eq_true rfl) (lv0 := [(0, .ref a_t), (1, .ref a_p1), (2, .int p2), (3, .int p3), (4, .int p4)]) rfl (fun X C hE => ?_)
  unfold dn_X2_gather at hd
  refine j_aload_n (pc := 0) C dX2_gather_0 rfl 0 rfl ?_
  refine j_iconst (pc := 1) (v := 0) C dX2_gather_1 jk_I0 ?_
  refine j_put (pc := 2) (q0 := 0) (ci := 2) (kf := 7) (ws2 := wd_X2_gather G a_t a_t_borrows a_t_lends a_t_wanted a_t_worth a_p1 a_p1_borrower a_p1_borrowerGain a_p1_byYear a_p1_either a_p1_lender a_p1_lenderGain a_t_room a_t_reach a_t_via 0 t_chosen t_borrows t_lends t_wanted t_worth p1_persons p1_deals p1_lawYears p1_toldParts a_p1_personNames a_p1_born a_p1_dies a_p1_limit a_p1_dealNames a_p1_year a_p1_memo p1_borrower p1_borrowerGain p1_byYear p1_either p1_lender p1_lenderGain) C dX2_gather_2 in_X2_gather_X2 tyX2 tyX2_ok nmX2 rfl (by decide) fl_X2_gather_33 rfl rfl rfl rfl (Nat.le_of_ble_eq_true rfl) rfl ?_
  refine j_aload_n (pc := 5) C dX2_gather_5 rfl 0 rfl ?_
  refine j_get (pc := 6) (q0 := 0) (ci := 2) (kf := 3) C dX2_gather_6 in_X2_gather_X2 rfl (by decide) fl_X2_gather_21 rfl rfl ?_
  refine j_iconst (pc := 9) (v := 0) C dX2_gather_9 jk_I0 ?_
  refine j_callS (pc := 10) (As := [.ref a_t_wanted, .int 0]) (rest := []) (st2 := []) (ws2 := wd_X2_gather G a_t a_t_borrows a_t_lends a_t_wanted a_t_worth a_p1 a_p1_borrower a_p1_borrowerGain a_p1_byYear a_p1_either a_p1_lender a_p1_lenderGain a_t_room a_t_reach a_t_via 0 t_chosen t_borrows t_lends (jfill 10 t_wanted 0) t_worth p1_persons p1_deals p1_lawYears p1_toldParts a_p1_personNames a_p1_born a_p1_dies a_p1_limit a_p1_dealNames a_p1_year a_p1_memo p1_borrower p1_borrowerGain p1_byYear p1_either p1_lender p1_lenderGain) C (ct_fill l G 10 a_t_wanted t_wanted 0 (by decide)) jy_J7_fill_53178 dX2_gather_10 gX2_gather_J7_fill_53178 rfl (by decide) ⟨Nat.zero_le _, Nat.zero_le _⟩ [3] rfl rfl (jpt_eq rfl rfl rfl) rfl (Nat.le_of_ble_eq_true rfl) rfl ?_
  refine j_iload_n (pc := 13) C dX2_gather_13 rfl 3 rfl ?_
  refine j_istore (pc := 14) (lv2 := [(0, .ref a_t), (1, .ref a_p1), (2, .int p2), (4, .int p4), (5, .int p3)]) C dX2_gather_14 (by decide) [1, 2, 3, 5, 0] rfl ?_
  refine j_sub (lv2 := [(0, .ref a_t), (1, .ref a_p1), (2, .int p2), (4, .int p4), (5, .int p3)]) [0, 1, 2, 3, 4] rfl ?_
  obtain ⟨n, hn⟩ := lpC_ex hd
  exact (la_X2_gather l G a_t a_t_borrows a_t_lends a_t_wanted a_t_worth a_p1 a_p1_borrower a_p1_borrowerGain a_p1_byYear a_p1_either a_p1_lender a_p1_lenderGain a_t_room a_t_reach a_t_via t_chosen p1_persons p1_deals p1_lawYears p1_toldParts a_p1_personNames a_p1_born a_p1_dies a_p1_limit a_p1_dealNames a_p1_year a_p1_memo p1_borrower p1_borrowerGain p1_byYear p1_either p1_lender p1_lenderGain p2 p3 p4 X C r hE n).1 p3 0 (jfill 10 t_wanted 0) t_lends t_borrows t_worth hn
/-! ##### LendTown$Flow.allFit(I)Z -/
abbrev rm_X2_allFit : Room := { frames := 0, cells := 0, slots := 0, locals := 0 }
theorem jy_X2_allFit : jY yX2_allFit wsX2_allFit rm_X2_allFit cX2_allFit 3 (some .boolean) 1 := ⟨⟨_, rfl⟩, ⟨rfl, rfl⟩, by decide, by decide, by decide +kernel⟩
theorem in_X2_allFit_X2 : ∀ w ∈ u_ws RX2 TX2 9, w ∈ wsX2_allFit := fun w h => List.mem_cons_of_mem _ (List.mem_append_right _ (h))
theorem fl_X2_allFit_21 : Cond.fieldLink RX2 21 "LendTown$Flow" "wanted" "[I" ∈ wsX2_allFit := List.mem_of_getElem? (i := 1) rfl
theorem fl_X2_allFit_24 : Cond.fieldLink RX2 24 "LendTown$Flow" "room" "[I" ∈ wsX2_allFit := List.mem_of_getElem? (i := 2) rfl
def wd_X2_allFit (G : jG) (a_t : Nat) (a_t_room : Nat) (a_t_wanted : Nat) (a_t_lends : Nat) (a_t_borrows : Nat) (a_t_worth : Nat) (a_t_reach : Nat) (a_t_via : Nat) (t_going : Int32) (t_chosen : Int32) (t_room : Nat → Int32) (t_wanted : Nat → Int32) : va_W := [(a_t, .inr (2, [.ref a_t_lends, .ref a_t_borrows, .ref a_t_worth, .ref a_t_wanted, .ref a_t_room, .ref a_t_reach, .ref a_t_via, .int t_going, .int t_chosen])), (a_t_room, .inl (G.2.2.1, 10, .inl t_room)), (a_t_wanted, .inl (G.2.2.1, 10, .inl t_wanted))]
set_option maxHeartbeats 8000000 in
set_option maxRecDepth 100000 in
theorem lb_X2_allFit_0 (l : Launch) (G : jG) (a_t : Nat) (a_t_room : Nat) (a_t_wanted : Nat) (a_t_lends : Nat) (a_t_borrows : Nat) (a_t_worth : Nat) (a_t_reach : Nat) (a_t_via : Nat) (t_going : Int32) (t_chosen : Int32) (t_room : Nat → Int32) (t_wanted : Nat → Int32) (p1 : Int32) (X : jX) (C : jC X l G 3 rm_X2_allFit cX2_allFit RX2 wsX2_allFit) (r : Bool) (hE : jE X (some .boolean) (some (.int (b2i r))) (wd_X2_allFit G a_t a_t_room a_t_wanted a_t_lends a_t_borrows a_t_worth a_t_reach a_t_via t_going t_chosen t_room t_wanted)) (n : Nat) (IH0 : ∀ (v2 : Int32), lpN (st_X2_allFit t_room t_wanted p1) n (v2) = some r → J X 0 0 (wd_X2_allFit G a_t a_t_room a_t_wanted a_t_lends a_t_borrows a_t_worth a_t_reach a_t_via t_going t_chosen t_room t_wanted) [(0, .ref a_t), (1, .int p1), (2, .int v2)] 2 []) (v2 : Int32) (hd : lpR (st_X2_allFit t_room t_wanted p1) n (bd_X2_allFit_0 t_room t_wanted p1 v2) = some r) : J X 0 0 (wd_X2_allFit G a_t a_t_room a_t_wanted a_t_lends a_t_borrows a_t_worth a_t_reach a_t_via t_going t_chosen t_room t_wanted) [(0, .ref a_t), (1, .int p1), (2, .int v2)] 2 [] := by
  unfold bd_X2_allFit_0 at hd
  refine j_iload_n (pc := 2) C dX2_allFit_2 rfl 2 rfl ?_
  refine j_iload_n (pc := 3) C dX2_allFit_3 rfl 1 rfl ?_
  refine j_icmp_ge (pc := 4) (tgt := 30) C dX2_allFit_4 (by decide) (fun c1 => ?_) (fun c1 => ?_)
  · have hd := lp_pos c1 hd
    refine j_iconst (pc := 30) (v := 1) C dX2_allFit_30 jk_I1 ?_
    obtain rfl := Option.some.inj hd
    exact j_zret (pc := 31) C hE dX2_allFit_31 rfl rfl rfl
  · have hd := lp_neg c1 hd
    refine j_aload_n (pc := 7) C dX2_allFit_7 rfl 0 rfl ?_
    refine j_get (pc := 8) (q0 := 0) (ci := 2) (kf := 3) C dX2_allFit_8 in_X2_allFit_X2 rfl (by decide) fl_X2_allFit_21 rfl rfl ?_
    refine j_iload_n (pc := 11) C dX2_allFit_11 rfl 2 rfl ?_
    obtain ⟨h2, hd⟩ := lp_chk hd
    refine j_iald (pc := 12) (q0 := 2) C dX2_allFit_12 rfl h2 ?_
    refine j_aload_n (pc := 13) C dX2_allFit_13 rfl 0 rfl ?_
    refine j_get (pc := 14) (q0 := 0) (ci := 2) (kf := 4) C dX2_allFit_14 in_X2_allFit_X2 rfl (by decide) fl_X2_allFit_24 rfl rfl ?_
    refine j_iload_n (pc := 17) C dX2_allFit_17 rfl 2 rfl ?_
    obtain ⟨h3, hd⟩ := lp_chk hd
    refine j_iald (pc := 18) (q0 := 1) C dX2_allFit_18 rfl h3 ?_
    refine j_icmp_le (pc := 19) (tgt := 24) C dX2_allFit_19 (by decide) (fun c4 => ?_) (fun c4 => ?_)
    · have hd := lp_pos c4 hd
      refine j_iinc (pc := 24) (lv2 := [(0, .ref a_t), (1, .int p1), (2, .int (v2 + 1))]) C dX2_allFit_24 jk_I1 (by decide) 2 rfl [1, 2, 0] rfl ?_
      refine j_goto (pc := 27) (tgt := 2) C dX2_allFit_27 (by decide) ?_
      refine j_sub (lv2 := [(0, .ref a_t), (1, .int p1), (2, .int (v2 + 1))]) [0, 1, 2] rfl ?_
      exact IH0 (v2 + 1) hd
    · have hd := lp_neg c4 hd
      refine j_iconst (pc := 22) (v := 0) C dX2_allFit_22 jk_I0 ?_
      obtain rfl := Option.some.inj hd
      exact j_zret (pc := 23) C hE dX2_allFit_23 rfl rfl rfl
set_option maxHeartbeats 8000000 in
set_option maxRecDepth 100000 in
theorem la_X2_allFit (l : Launch) (G : jG) (a_t : Nat) (a_t_room : Nat) (a_t_wanted : Nat) (a_t_lends : Nat) (a_t_borrows : Nat) (a_t_worth : Nat) (a_t_reach : Nat) (a_t_via : Nat) (t_going : Int32) (t_chosen : Int32) (t_room : Nat → Int32) (t_wanted : Nat → Int32) (p1 : Int32) (X : jX) (C : jC X l G 3 rm_X2_allFit cX2_allFit RX2 wsX2_allFit) (r : Bool) (hE : jE X (some .boolean) (some (.int (b2i r))) (wd_X2_allFit G a_t a_t_room a_t_wanted a_t_lends a_t_borrows a_t_worth a_t_reach a_t_via t_going t_chosen t_room t_wanted)) (n : Nat) : (∀ (v2 : Int32), lpN (st_X2_allFit t_room t_wanted p1) n (v2) = some r → J X 0 0 (wd_X2_allFit G a_t a_t_room a_t_wanted a_t_lends a_t_borrows a_t_worth a_t_reach a_t_via t_going t_chosen t_room t_wanted) [(0, .ref a_t), (1, .int p1), (2, .int v2)] 2 []) := by
  induction n with
  | zero => exact (fun v2 h => by cases h)
  | succ n ih => exact (fun v2 h => lb_X2_allFit_0 l G a_t a_t_room a_t_wanted a_t_lends a_t_borrows a_t_worth a_t_reach a_t_via t_going t_chosen t_room t_wanted p1 X C r hE n (ih) v2 (by rw [lpN_succ] at h; exact h))
set_option maxHeartbeats 8000000 in
set_option maxRecDepth 100000 in
theorem ct_X2_allFit (l : Launch) (G : jG) (a_t : Nat) (a_t_room : Nat) (a_t_wanted : Nat) (a_t_lends : Nat) (a_t_borrows : Nat) (a_t_worth : Nat) (a_t_reach : Nat) (a_t_via : Nat) (t_going : Int32) (t_chosen : Int32) (t_room : Nat → Int32) (t_wanted : Nat → Int32) (p1 : Int32) (r : Bool) (hd : dn_X2_allFit t_room t_wanted p1 = some r) : jM l G yX2_allFit wsX2_allFit rm_X2_allFit [.ref a_t, .int p1] (wd_X2_allFit G a_t a_t_room a_t_wanted a_t_lends a_t_borrows a_t_worth a_t_reach a_t_via t_going t_chosen t_room t_wanted) (some (.int (b2i r))) (wd_X2_allFit G a_t a_t_room a_t_wanted a_t_lends a_t_borrows a_t_worth a_t_reach a_t_via t_going t_chosen t_room t_wanted) := by
  refine jM_of (own := RX2) (by decide) rfl rfl rfl (Nat.le_of_ble_eq_true rfl) (lv0 := [(0, .ref a_t), (1, .int p1)]) rfl (fun X C hE => ?_)
  unfold dn_X2_allFit at hd
  refine j_iconst (pc := 0) (v := 0) C dX2_allFit_0 jk_I0 ?_
  refine j_istore_n (pc := 1) (lv2 := [(0, .ref a_t), (1, .int p1), (2, .int 0)]) C dX2_allFit_1 rfl (by decide) [1, 2, 0] rfl ?_
  refine j_sub (lv2 := [(0, .ref a_t), (1, .int p1), (2, .int 0)]) [0, 1, 2] rfl ?_
  obtain ⟨n, hn⟩ := lpC_ex hd
  exact (la_X2_allFit l G a_t a_t_room a_t_wanted a_t_lends a_t_borrows a_t_worth a_t_reach a_t_via t_going t_chosen t_room t_wanted p1 X C r hE n) 0 hn
/-! ##### LendTown$Flow.sumOfGoing()I -/
abbrev rm_X2_sumOfGoing : Room := { frames := 0, cells := 0, slots := 0, locals := 0 }
theorem jy_X2_sumOfGoing : jY yX2_sumOfGoing wsX2_sumOfGoing rm_X2_sumOfGoing cX2_sumOfGoing 3 (some .int) 0 := ⟨⟨_, rfl⟩, ⟨rfl, rfl⟩, by decide, by decide, by decide +kernel⟩
theorem in_X2_sumOfGoing_X2 : ∀ w ∈ u_ws RX2 TX2 9, w ∈ wsX2_sumOfGoing := fun w h => List.mem_cons_of_mem _ (List.mem_append_right _ (h))
theorem fl_X2_sumOfGoing_33 : Cond.fieldLink RX2 33 "LendTown$Flow" "going" "I" ∈ wsX2_sumOfGoing := List.mem_of_getElem? (i := 1) rfl
theorem fl_X2_sumOfGoing_18 : Cond.fieldLink RX2 18 "LendTown$Flow" "worth" "[I" ∈ wsX2_sumOfGoing := List.mem_of_getElem? (i := 2) rfl
def wd_X2_sumOfGoing (G : jG) (a_t : Nat) (a_t_worth : Nat) (a_t_lends : Nat) (a_t_borrows : Nat) (a_t_wanted : Nat) (a_t_room : Nat) (a_t_reach : Nat) (a_t_via : Nat) (t_going : Int32) (t_chosen : Int32) (t_worth : Nat → Int32) : va_W := [(a_t, .inr (2, [.ref a_t_lends, .ref a_t_borrows, .ref a_t_worth, .ref a_t_wanted, .ref a_t_room, .ref a_t_reach, .ref a_t_via, .int t_going, .int t_chosen])), (a_t_worth, .inl (G.2.2.1, 30, .inl t_worth))]
set_option maxHeartbeats 8000000 in
set_option maxRecDepth 100000 in
theorem lb_X2_sumOfGoing_0 (l : Launch) (G : jG) (a_t : Nat) (a_t_worth : Nat) (a_t_lends : Nat) (a_t_borrows : Nat) (a_t_wanted : Nat) (a_t_room : Nat) (a_t_reach : Nat) (a_t_via : Nat) (t_going : Int32) (t_chosen : Int32) (t_worth : Nat → Int32)  (X : jX) (C : jC X l G 3 rm_X2_sumOfGoing cX2_sumOfGoing RX2 wsX2_sumOfGoing) (r : Int32) (hE : jE X (some .int) (some (.int r)) (wd_X2_sumOfGoing G a_t a_t_worth a_t_lends a_t_borrows a_t_wanted a_t_room a_t_reach a_t_via t_going t_chosen t_worth)) (n : Nat) (IH0 : ∀ (v1 : Int32) (v2 : Int32), lpN (st_X2_sumOfGoing t_going t_worth) n ((v1, v2)) = some r → J X 0 0 (wd_X2_sumOfGoing G a_t a_t_worth a_t_lends a_t_borrows a_t_wanted a_t_room a_t_reach a_t_via t_going t_chosen t_worth) [(0, .ref a_t), (1, .int v1), (2, .int v2)] 4 []) (v1 : Int32) (v2 : Int32) (hd : lpR (st_X2_sumOfGoing t_going t_worth) n (bd_X2_sumOfGoing_0 t_going t_worth v1 v2) = some r) : J X 0 0 (wd_X2_sumOfGoing G a_t a_t_worth a_t_lends a_t_borrows a_t_wanted a_t_room a_t_reach a_t_via t_going t_chosen t_worth) [(0, .ref a_t), (1, .int v1), (2, .int v2)] 4 [] := by
  unfold bd_X2_sumOfGoing_0 at hd
  refine j_iload_n (pc := 4) C dX2_sumOfGoing_4 rfl 2 rfl ?_
  refine j_aload_n (pc := 5) C dX2_sumOfGoing_5 rfl 0 rfl ?_
  refine j_get (pc := 6) (q0 := 0) (ci := 2) (kf := 7) C dX2_sumOfGoing_6 in_X2_sumOfGoing_X2 rfl (by decide) fl_X2_sumOfGoing_33 rfl rfl ?_
  refine j_icmp_ge (pc := 9) (tgt := 27) C dX2_sumOfGoing_9 (by decide) (fun c1 => ?_) (fun c1 => ?_)
  · have hd := lp_pos c1 hd
    refine j_iload_n (pc := 27) C dX2_sumOfGoing_27 rfl 1 rfl ?_
    obtain rfl := Option.some.inj hd
    exact j_iret (pc := 28) C hE dX2_sumOfGoing_28 rfl rfl
  · have hd := lp_neg c1 hd
    refine j_iload_n (pc := 12) C dX2_sumOfGoing_12 rfl 1 rfl ?_
    refine j_aload_n (pc := 13) C dX2_sumOfGoing_13 rfl 0 rfl ?_
    refine j_get (pc := 14) (q0 := 0) (ci := 2) (kf := 2) C dX2_sumOfGoing_14 in_X2_sumOfGoing_X2 rfl (by decide) fl_X2_sumOfGoing_18 rfl rfl ?_
    refine j_iload_n (pc := 17) C dX2_sumOfGoing_17 rfl 2 rfl ?_
    obtain ⟨h2, hd⟩ := lp_chk hd
    refine j_iald (pc := 18) (q0 := 1) C dX2_sumOfGoing_18 rfl h2 ?_
    refine j_iadd (pc := 19) C dX2_sumOfGoing_19 ?_
    refine j_istore_n (pc := 20) (lv2 := [(0, .ref a_t), (1, .int (v1 + (t_worth (v2).toNatClampNeg))), (2, .int v2)]) C dX2_sumOfGoing_20 rfl (by decide) [1, 0, 2] rfl ?_
    refine j_iinc (pc := 21) (lv2 := [(0, .ref a_t), (1, .int (v1 + (t_worth (v2).toNatClampNeg))), (2, .int (v2 + 1))]) C dX2_sumOfGoing_21 jk_I1 (by decide) 2 rfl [1, 2, 0] rfl ?_
    refine j_goto (pc := 24) (tgt := 4) C dX2_sumOfGoing_24 (by decide) ?_
    refine j_sub (lv2 := [(0, .ref a_t), (1, .int (v1 + (t_worth (v2).toNatClampNeg))), (2, .int (v2 + 1))]) [0, 1, 2] rfl ?_
    exact IH0 (v1 + (t_worth (v2).toNatClampNeg)) (v2 + 1) hd
set_option maxHeartbeats 8000000 in
set_option maxRecDepth 100000 in
theorem la_X2_sumOfGoing (l : Launch) (G : jG) (a_t : Nat) (a_t_worth : Nat) (a_t_lends : Nat) (a_t_borrows : Nat) (a_t_wanted : Nat) (a_t_room : Nat) (a_t_reach : Nat) (a_t_via : Nat) (t_going : Int32) (t_chosen : Int32) (t_worth : Nat → Int32)  (X : jX) (C : jC X l G 3 rm_X2_sumOfGoing cX2_sumOfGoing RX2 wsX2_sumOfGoing) (r : Int32) (hE : jE X (some .int) (some (.int r)) (wd_X2_sumOfGoing G a_t a_t_worth a_t_lends a_t_borrows a_t_wanted a_t_room a_t_reach a_t_via t_going t_chosen t_worth)) (n : Nat) : (∀ (v1 : Int32) (v2 : Int32), lpN (st_X2_sumOfGoing t_going t_worth) n ((v1, v2)) = some r → J X 0 0 (wd_X2_sumOfGoing G a_t a_t_worth a_t_lends a_t_borrows a_t_wanted a_t_room a_t_reach a_t_via t_going t_chosen t_worth) [(0, .ref a_t), (1, .int v1), (2, .int v2)] 4 []) := by
  induction n with
  | zero => exact (fun v1 v2 h => by cases h)
  | succ n ih => exact (fun v1 v2 h => lb_X2_sumOfGoing_0 l G a_t a_t_worth a_t_lends a_t_borrows a_t_wanted a_t_room a_t_reach a_t_via t_going t_chosen t_worth X C r hE n (ih) v1 v2 (by rw [lpN_succ] at h; exact h))
set_option maxHeartbeats 8000000 in
set_option maxRecDepth 100000 in
theorem ct_X2_sumOfGoing (l : Launch) (G : jG) (a_t : Nat) (a_t_worth : Nat) (a_t_lends : Nat) (a_t_borrows : Nat) (a_t_wanted : Nat) (a_t_room : Nat) (a_t_reach : Nat) (a_t_via : Nat) (t_going : Int32) (t_chosen : Int32) (t_worth : Nat → Int32)  (r : Int32) (hd : dn_X2_sumOfGoing t_going t_worth = some r) : jM l G yX2_sumOfGoing wsX2_sumOfGoing rm_X2_sumOfGoing [.ref a_t] (wd_X2_sumOfGoing G a_t a_t_worth a_t_lends a_t_borrows a_t_wanted a_t_room a_t_reach a_t_via t_going t_chosen t_worth) (some (.int r)) (wd_X2_sumOfGoing G a_t a_t_worth a_t_lends a_t_borrows a_t_wanted a_t_room a_t_reach a_t_via t_going t_chosen t_worth) := by
  refine jM_of (own := RX2) (by decide) rfl rfl rfl (Nat.le_of_ble_eq_true rfl) (lv0 := [(0, .ref a_t)]) rfl (fun X C hE => ?_)
  unfold dn_X2_sumOfGoing at hd
  refine j_iconst (pc := 0) (v := 0) C dX2_sumOfGoing_0 jk_I0 ?_
  refine j_istore_n (pc := 1) (lv2 := [(0, .ref a_t), (1, .int 0)]) C dX2_sumOfGoing_1 rfl (by decide) [1, 0] rfl ?_
  refine j_iconst (pc := 2) (v := 0) C dX2_sumOfGoing_2 jk_I0 ?_
  refine j_istore_n (pc := 3) (lv2 := [(0, .ref a_t), (1, .int 0), (2, .int 0)]) C dX2_sumOfGoing_3 rfl (by decide) [1, 2, 0] rfl ?_
  refine j_sub (lv2 := [(0, .ref a_t), (1, .int 0), (2, .int 0)]) [0, 1, 2] rfl ?_
  obtain ⟨n, hn⟩ := lpC_ex hd
  exact (la_X2_sumOfGoing l G a_t a_t_worth a_t_lends a_t_borrows a_t_wanted a_t_room a_t_reach a_t_via t_going t_chosen t_worth X C r hE n) 0 0 hn
/-! ##### LendTown$Flow.leadAlong(I)Z -/
abbrev rm_X2_leadAlong : Room := { frames := 0, cells := 0, slots := 0, locals := 0 }
theorem jy_X2_leadAlong : jY yX2_leadAlong wsX2_leadAlong rm_X2_leadAlong cX2_leadAlong 6 (some .boolean) 1 := ⟨⟨_, rfl⟩, ⟨rfl, rfl⟩, by decide, by decide, by decide +kernel⟩
theorem in_X2_leadAlong_X2 : ∀ w ∈ u_ws RX2 TX2 9, w ∈ wsX2_leadAlong := fun w h => List.mem_cons_of_mem _ (List.mem_append_right _ (h))
theorem fl_X2_leadAlong_37 : Cond.fieldLink RX2 37 "LendTown$Flow" "chosen" "I" ∈ wsX2_leadAlong := List.mem_of_getElem? (i := 1) rfl
theorem fl_X2_leadAlong_9 : Cond.fieldLink RX2 9 "LendTown$Flow" "lends" "[I" ∈ wsX2_leadAlong := List.mem_of_getElem? (i := 3) rfl
theorem fl_X2_leadAlong_15 : Cond.fieldLink RX2 15 "LendTown$Flow" "borrows" "[I" ∈ wsX2_leadAlong := List.mem_of_getElem? (i := 2) rfl
theorem fl_X2_leadAlong_18 : Cond.fieldLink RX2 18 "LendTown$Flow" "worth" "[I" ∈ wsX2_leadAlong := List.mem_of_getElem? (i := 4) rfl
theorem fl_X2_leadAlong_27 : Cond.fieldLink RX2 27 "LendTown$Flow" "reach" "[I" ∈ wsX2_leadAlong := List.mem_of_getElem? (i := 5) rfl
theorem fl_X2_leadAlong_30 : Cond.fieldLink RX2 30 "LendTown$Flow" "via" "[I" ∈ wsX2_leadAlong := List.mem_of_getElem? (i := 7) rfl
def wd_X2_leadAlong (G : jG) (a_t : Nat) (a_t_borrows : Nat) (a_t_lends : Nat) (a_t_reach : Nat) (a_t_via : Nat) (a_t_worth : Nat) (a_t_wanted : Nat) (a_t_room : Nat) (t_going : Int32) (t_chosen : Int32) (t_borrows : Nat → Int32) (t_lends : Nat → Int32) (t_reach : Nat → Int32) (t_via : Nat → Int32) (t_worth : Nat → Int32) : va_W := [(a_t, .inr (2, [.ref a_t_lends, .ref a_t_borrows, .ref a_t_worth, .ref a_t_wanted, .ref a_t_room, .ref a_t_reach, .ref a_t_via, .int t_going, .int t_chosen])), (a_t_borrows, .inl (G.2.2.1, 30, .inl t_borrows)), (a_t_lends, .inl (G.2.2.1, 30, .inl t_lends)), (a_t_reach, .inl (G.2.2.1, 10, .inl t_reach)), (a_t_via, .inl (G.2.2.1, 10, .inl t_via)), (a_t_worth, .inl (G.2.2.1, 30, .inl t_worth))]
set_option maxHeartbeats 8000000 in
set_option maxRecDepth 100000 in
theorem lb_X2_leadAlong_0 (l : Launch) (G : jG) (a_t : Nat) (a_t_borrows : Nat) (a_t_lends : Nat) (a_t_reach : Nat) (a_t_via : Nat) (a_t_worth : Nat) (a_t_wanted : Nat) (a_t_room : Nat) (t_going : Int32) (t_chosen : Int32) (t_borrows : Nat → Int32) (t_lends : Nat → Int32) (t_worth : Nat → Int32) (p1 : Int32) (X : jX) (C : jC X l G 6 rm_X2_leadAlong cX2_leadAlong RX2 wsX2_leadAlong) (r : Bool × (Nat → Int32) × (Nat → Int32)) (hE : jE X (some .boolean) (some (.int (b2i r.1))) (wd_X2_leadAlong G a_t a_t_borrows a_t_lends a_t_reach a_t_via a_t_worth a_t_wanted a_t_room t_going t_chosen t_borrows t_lends r.2.1 r.2.2 t_worth)) (n : Nat) (IH1 : ∀ (v2 : Int32) (k0 : Int32) (t_reach : Nat → Int32) (t_via : Nat → Int32), lpN (st_X2_leadAlong t_borrows t_lends t_worth p1) n (.inr (.inl (v2, k0, t_reach, t_via))) = some r → J X 0 0 (wd_X2_leadAlong G a_t a_t_borrows a_t_lends a_t_reach a_t_via a_t_worth a_t_wanted a_t_room t_going t_chosen t_borrows t_lends t_reach t_via t_worth) [(0, .ref a_t), (1, .int p1), (2, .int v2)] 37 [.int k0]) (k0 : Int32) (t_reach : Nat → Int32) (t_via : Nat → Int32) (hd : lpR (st_X2_leadAlong t_borrows t_lends t_worth p1) n (bd_X2_leadAlong_0 t_borrows t_lends t_worth p1 k0 t_reach t_via) = some r) : J X 0 0 (wd_X2_leadAlong G a_t a_t_borrows a_t_lends a_t_reach a_t_via a_t_worth a_t_wanted a_t_room t_going t_chosen t_borrows t_lends t_reach t_via t_worth) [(0, .ref a_t), (1, .int p1)] 17 [.int k0] := by
  unfold bd_X2_leadAlong_0 at hd
  refine j_istore_n (pc := 17) (lv2 := [(0, .ref a_t), (1, .int p1), (2, .int k0)]) C dX2_leadAlong_17 rfl (by decide) [1, 2, 0] rfl ?_
  refine j_iload_n (pc := 18) C dX2_leadAlong_18 rfl 2 rfl ?_
  refine j_if_eq (pc := 19) (tgt := 31) C dX2_leadAlong_19 (by decide) (fun c2 => ?_) (fun c2 => ?_)
  · have hd := lp_pos c2 hd
    refine j_aload_n (pc := 31) C dX2_leadAlong_31 rfl 0 rfl ?_
    refine j_get (pc := 32) (q0 := 0) (ci := 2) (kf := 0) C dX2_leadAlong_32 in_X2_leadAlong_X2 rfl (by decide) fl_X2_leadAlong_9 rfl rfl ?_
    refine j_iload_n (pc := 35) C dX2_leadAlong_35 rfl 1 rfl ?_
    obtain ⟨h3, hd⟩ := lp_chk hd
    refine j_iald (pc := 36) (q0 := 2) C dX2_leadAlong_36 rfl h3 ?_
    refine j_sub (lv2 := [(0, .ref a_t), (1, .int p1), (2, .int k0)]) [0, 1, 2] rfl ?_
    exact IH1 k0 (t_lends (p1).toNatClampNeg) t_reach t_via hd
  · have hd := lp_neg c2 hd
    refine j_aload_n (pc := 22) C dX2_leadAlong_22 rfl 0 rfl ?_
    refine j_get (pc := 23) (q0 := 0) (ci := 2) (kf := 1) C dX2_leadAlong_23 in_X2_leadAlong_X2 rfl (by decide) fl_X2_leadAlong_15 rfl rfl ?_
    refine j_iload_n (pc := 26) C dX2_leadAlong_26 rfl 1 rfl ?_
    obtain ⟨h4, hd⟩ := lp_chk hd
    refine j_iald (pc := 27) (q0 := 1) C dX2_leadAlong_27 rfl h4 ?_
    refine j_goto (pc := 28) (tgt := 37) C dX2_leadAlong_28 (by decide) ?_
    refine j_sub (lv2 := [(0, .ref a_t), (1, .int p1), (2, .int k0)]) [0, 1, 2] rfl ?_
    exact IH1 k0 (t_borrows (p1).toNatClampNeg) t_reach t_via hd
set_option maxHeartbeats 8000000 in
set_option maxRecDepth 100000 in
theorem lb_X2_leadAlong_1 (l : Launch) (G : jG) (a_t : Nat) (a_t_borrows : Nat) (a_t_lends : Nat) (a_t_reach : Nat) (a_t_via : Nat) (a_t_worth : Nat) (a_t_wanted : Nat) (a_t_room : Nat) (t_going : Int32) (t_chosen : Int32) (t_borrows : Nat → Int32) (t_lends : Nat → Int32) (t_worth : Nat → Int32) (p1 : Int32) (X : jX) (C : jC X l G 6 rm_X2_leadAlong cX2_leadAlong RX2 wsX2_leadAlong) (r : Bool × (Nat → Int32) × (Nat → Int32)) (hE : jE X (some .boolean) (some (.int (b2i r.1))) (wd_X2_leadAlong G a_t a_t_borrows a_t_lends a_t_reach a_t_via a_t_worth a_t_wanted a_t_room t_going t_chosen t_borrows t_lends r.2.1 r.2.2 t_worth)) (n : Nat) (IH2 : ∀ (v2 : Int32) (v3 : Int32) (k0 : Int32) (t_reach : Nat → Int32) (t_via : Nat → Int32), lpN (st_X2_leadAlong t_borrows t_lends t_worth p1) n (.inr (.inr (.inl (v2, v3, k0, t_reach, t_via)))) = some r → J X 0 0 (wd_X2_leadAlong G a_t a_t_borrows a_t_lends a_t_reach a_t_via a_t_worth a_t_wanted a_t_room t_going t_chosen t_borrows t_lends t_reach t_via t_worth) [(0, .ref a_t), (1, .int p1), (2, .int v2), (3, .int v3)] 57 [.int k0]) (v2 : Int32) (k0 : Int32) (t_reach : Nat → Int32) (t_via : Nat → Int32) (hd : lpR (st_X2_leadAlong t_borrows t_lends t_worth p1) n (bd_X2_leadAlong_1 t_borrows t_lends t_worth p1 v2 k0 t_reach t_via) = some r) : J X 0 0 (wd_X2_leadAlong G a_t a_t_borrows a_t_lends a_t_reach a_t_via a_t_worth a_t_wanted a_t_room t_going t_chosen t_borrows t_lends t_reach t_via t_worth) [(0, .ref a_t), (1, .int p1), (2, .int v2)] 37 [.int k0] := by
  unfold bd_X2_leadAlong_1 at hd
  refine j_istore_n (pc := 37) (lv2 := [(0, .ref a_t), (1, .int p1), (2, .int v2), (3, .int k0)]) C dX2_leadAlong_37 rfl (by decide) [1, 2, 3, 0] rfl ?_
  refine j_iload_n (pc := 38) C dX2_leadAlong_38 rfl 2 rfl ?_
  refine j_if_eq (pc := 39) (tgt := 51) C dX2_leadAlong_39 (by decide) (fun c5 => ?_) (fun c5 => ?_)
  · have hd := lp_pos c5 hd
    refine j_aload_n (pc := 51) C dX2_leadAlong_51 rfl 0 rfl ?_
    refine j_get (pc := 52) (q0 := 0) (ci := 2) (kf := 1) C dX2_leadAlong_52 in_X2_leadAlong_X2 rfl (by decide) fl_X2_leadAlong_15 rfl rfl ?_
    refine j_iload_n (pc := 55) C dX2_leadAlong_55 rfl 1 rfl ?_
    obtain ⟨h6, hd⟩ := lp_chk hd
    refine j_iald (pc := 56) (q0 := 1) C dX2_leadAlong_56 rfl h6 ?_
    refine j_sub (lv2 := [(0, .ref a_t), (1, .int p1), (2, .int v2), (3, .int k0)]) [0, 1, 2, 3] rfl ?_
    exact IH2 v2 k0 (t_borrows (p1).toNatClampNeg) t_reach t_via hd
  · have hd := lp_neg c5 hd
    refine j_aload_n (pc := 42) C dX2_leadAlong_42 rfl 0 rfl ?_
    refine j_get (pc := 43) (q0 := 0) (ci := 2) (kf := 0) C dX2_leadAlong_43 in_X2_leadAlong_X2 rfl (by decide) fl_X2_leadAlong_9 rfl rfl ?_
    refine j_iload_n (pc := 46) C dX2_leadAlong_46 rfl 1 rfl ?_
    obtain ⟨h7, hd⟩ := lp_chk hd
    refine j_iald (pc := 47) (q0 := 2) C dX2_leadAlong_47 rfl h7 ?_
    refine j_goto (pc := 48) (tgt := 57) C dX2_leadAlong_48 (by decide) ?_
    refine j_sub (lv2 := [(0, .ref a_t), (1, .int p1), (2, .int v2), (3, .int k0)]) [0, 1, 2, 3] rfl ?_
    exact IH2 v2 k0 (t_lends (p1).toNatClampNeg) t_reach t_via hd
set_option maxHeartbeats 8000000 in
set_option maxRecDepth 100000 in
theorem lb_X2_leadAlong_2 (l : Launch) (G : jG) (a_t : Nat) (a_t_borrows : Nat) (a_t_lends : Nat) (a_t_reach : Nat) (a_t_via : Nat) (a_t_worth : Nat) (a_t_wanted : Nat) (a_t_room : Nat) (t_going : Int32) (t_chosen : Int32) (t_borrows : Nat → Int32) (t_lends : Nat → Int32) (t_worth : Nat → Int32) (p1 : Int32) (X : jX) (C : jC X l G 6 rm_X2_leadAlong cX2_leadAlong RX2 wsX2_leadAlong) (r : Bool × (Nat → Int32) × (Nat → Int32)) (hE : jE X (some .boolean) (some (.int (b2i r.1))) (wd_X2_leadAlong G a_t a_t_borrows a_t_lends a_t_reach a_t_via a_t_worth a_t_wanted a_t_room t_going t_chosen t_borrows t_lends r.2.1 r.2.2 t_worth)) (n : Nat) (IH3 : ∀ (v3 : Int32) (v4 : Int32) (k0 : Int32) (t_reach : Nat → Int32) (t_via : Nat → Int32), lpN (st_X2_leadAlong t_borrows t_lends t_worth p1) n (.inr (.inr (.inr ((v3, v4, k0, t_reach, t_via))))) = some r → J X 0 0 (wd_X2_leadAlong G a_t a_t_borrows a_t_lends a_t_reach a_t_via a_t_worth a_t_wanted a_t_room t_going t_chosen t_borrows t_lends t_reach t_via t_worth) [(0, .ref a_t), (1, .int p1), (3, .int v3), (4, .int v4)] 79 [.int k0]) (v2 : Int32) (v3 : Int32) (k0 : Int32) (t_reach : Nat → Int32) (t_via : Nat → Int32) (hd : lpR (st_X2_leadAlong t_borrows t_lends t_worth p1) n (bd_X2_leadAlong_2 t_borrows t_lends t_worth p1 v2 v3 k0 t_reach t_via) = some r) : J X 0 0 (wd_X2_leadAlong G a_t a_t_borrows a_t_lends a_t_reach a_t_via a_t_worth a_t_wanted a_t_room t_going t_chosen t_borrows t_lends t_reach t_via t_worth) [(0, .ref a_t), (1, .int p1), (2, .int v2), (3, .int v3)] 57 [.int k0] := by
  unfold bd_X2_leadAlong_2 at hd
  refine j_istore (pc := 57) (lv2 := [(0, .ref a_t), (1, .int p1), (2, .int v2), (3, .int v3), (4, .int k0)]) C dX2_leadAlong_57 (by decide) [1, 2, 3, 4, 0] rfl ?_
  refine j_iload_n (pc := 59) C dX2_leadAlong_59 rfl 2 rfl ?_
  refine j_if_eq (pc := 60) (tgt := 73) C dX2_leadAlong_60 (by decide) (fun c8 => ?_) (fun c8 => ?_)
  · have hd := lp_pos c8 hd
    refine j_aload_n (pc := 73) C dX2_leadAlong_73 rfl 0 rfl ?_
    refine j_get (pc := 74) (q0 := 0) (ci := 2) (kf := 2) C dX2_leadAlong_74 in_X2_leadAlong_X2 rfl (by decide) fl_X2_leadAlong_18 rfl rfl ?_
    refine j_iload_n (pc := 77) C dX2_leadAlong_77 rfl 1 rfl ?_
    obtain ⟨h9, hd⟩ := lp_chk hd
    refine j_iald (pc := 78) (q0 := 5) C dX2_leadAlong_78 rfl h9 ?_
    refine j_sub (lv2 := [(0, .ref a_t), (1, .int p1), (3, .int v3), (4, .int k0)]) [0, 1, 3, 4] rfl ?_
    exact IH3 v3 k0 (t_worth (p1).toNatClampNeg) t_reach t_via hd
  · have hd := lp_neg c8 hd
    refine j_aload_n (pc := 63) C dX2_leadAlong_63 rfl 0 rfl ?_
    refine j_get (pc := 64) (q0 := 0) (ci := 2) (kf := 2) C dX2_leadAlong_64 in_X2_leadAlong_X2 rfl (by decide) fl_X2_leadAlong_18 rfl rfl ?_
    refine j_iload_n (pc := 67) C dX2_leadAlong_67 rfl 1 rfl ?_
    obtain ⟨h10, hd⟩ := lp_chk hd
    refine j_iald (pc := 68) (q0 := 5) C dX2_leadAlong_68 rfl h10 ?_
    refine j_ineg (pc := 69) C dX2_leadAlong_69 ?_
    refine j_goto (pc := 70) (tgt := 79) C dX2_leadAlong_70 (by decide) ?_
    refine j_sub (lv2 := [(0, .ref a_t), (1, .int p1), (3, .int v3), (4, .int k0)]) [0, 1, 3, 4] rfl ?_
    exact IH3 v3 k0 (-(t_worth (p1).toNatClampNeg)) t_reach t_via hd
set_option maxHeartbeats 8000000 in
set_option maxRecDepth 100000 in
theorem lb_X2_leadAlong_3 (l : Launch) (G : jG) (a_t : Nat) (a_t_borrows : Nat) (a_t_lends : Nat) (a_t_reach : Nat) (a_t_via : Nat) (a_t_worth : Nat) (a_t_wanted : Nat) (a_t_room : Nat) (t_going : Int32) (t_chosen : Int32) (t_borrows : Nat → Int32) (t_lends : Nat → Int32) (t_worth : Nat → Int32) (p1 : Int32) (X : jX) (C : jC X l G 6 rm_X2_leadAlong cX2_leadAlong RX2 wsX2_leadAlong) (r : Bool × (Nat → Int32) × (Nat → Int32)) (hE : jE X (some .boolean) (some (.int (b2i r.1))) (wd_X2_leadAlong G a_t a_t_borrows a_t_lends a_t_reach a_t_via a_t_worth a_t_wanted a_t_room t_going t_chosen t_borrows t_lends r.2.1 r.2.2 t_worth)) (n : Nat)  (v3 : Int32) (v4 : Int32) (k0 : Int32) (t_reach : Nat → Int32) (t_via : Nat → Int32) (hd : lpR (st_X2_leadAlong t_borrows t_lends t_worth p1) n (bd_X2_leadAlong_3 t_borrows t_lends t_worth p1 v3 v4 k0 t_reach t_via) = some r) : J X 0 0 (wd_X2_leadAlong G a_t a_t_borrows a_t_lends a_t_reach a_t_via a_t_worth a_t_wanted a_t_room t_going t_chosen t_borrows t_lends t_reach t_via t_worth) [(0, .ref a_t), (1, .int p1), (3, .int v3), (4, .int v4)] 79 [.int k0] := by
  unfold bd_X2_leadAlong_3 at hd
  refine j_istore (pc := 79) (lv2 := [(0, .ref a_t), (1, .int p1), (3, .int v3), (4, .int v4), (5, .int k0)]) C dX2_leadAlong_79 (by decide) [1, 2, 3, 4, 0] rfl ?_
  refine j_aload_n (pc := 81) C dX2_leadAlong_81 rfl 0 rfl ?_
  refine j_get (pc := 82) (q0 := 0) (ci := 2) (kf := 5) C dX2_leadAlong_82 in_X2_leadAlong_X2 rfl (by decide) fl_X2_leadAlong_27 rfl rfl ?_
  refine j_iload_n (pc := 85) C dX2_leadAlong_85 rfl 2 rfl ?_
  obtain ⟨h11, hd⟩ := lp_chk hd
  refine j_iald (pc := 86) (q0 := 3) C dX2_leadAlong_86 rfl h11 ?_
  refine j_ldc (pc := 87) (v := (-1000000)) C dX2_leadAlong_87 (List.mem_of_getElem? (i := 6) rfl) ?_
  refine j_icmp_eq (pc := 89) (tgt := 111) C dX2_leadAlong_89 (by decide) (fun c12 => ?_) (fun c12 => ?_)
  · have hd := lp_pos c12 hd
    refine j_iconst (pc := 111) (v := 0) C dX2_leadAlong_111 jk_I0 ?_
    obtain rfl := Option.some.inj hd
    exact j_zret (pc := 112) C hE dX2_leadAlong_112 rfl rfl rfl
  · have hd := lp_neg c12 hd
    refine j_aload_n (pc := 92) C dX2_leadAlong_92 rfl 0 rfl ?_
    refine j_get (pc := 93) (q0 := 0) (ci := 2) (kf := 5) C dX2_leadAlong_93 in_X2_leadAlong_X2 rfl (by decide) fl_X2_leadAlong_27 rfl rfl ?_
    refine j_iload_n (pc := 96) C dX2_leadAlong_96 rfl 2 rfl ?_
    obtain ⟨h13, hd⟩ := lp_chk hd
    refine j_iald (pc := 97) (q0 := 3) C dX2_leadAlong_97 rfl h13 ?_
    refine j_iload (pc := 98) C dX2_leadAlong_98 4 rfl ?_
    refine j_iadd (pc := 100) C dX2_leadAlong_100 ?_
    refine j_aload_n (pc := 101) C dX2_leadAlong_101 rfl 0 rfl ?_
    refine j_get (pc := 102) (q0 := 0) (ci := 2) (kf := 5) C dX2_leadAlong_102 in_X2_leadAlong_X2 rfl (by decide) fl_X2_leadAlong_27 rfl rfl ?_
    refine j_iload (pc := 105) C dX2_leadAlong_105 3 rfl ?_
    obtain ⟨h14, hd⟩ := lp_chk hd
    refine j_iald (pc := 107) (q0 := 3) C dX2_leadAlong_107 rfl h14 ?_
    refine j_icmp_gt (pc := 108) (tgt := 113) C dX2_leadAlong_108 (by decide) (fun c15 => ?_) (fun c15 => ?_)
    · have hd := lp_pos c15 hd
      refine j_aload_n (pc := 113) C dX2_leadAlong_113 rfl 0 rfl ?_
      refine j_get (pc := 114) (q0 := 0) (ci := 2) (kf := 5) C dX2_leadAlong_114 in_X2_leadAlong_X2 rfl (by decide) fl_X2_leadAlong_27 rfl rfl ?_
      refine j_iload (pc := 117) C dX2_leadAlong_117 3 rfl ?_
      refine j_aload_n (pc := 119) C dX2_leadAlong_119 rfl 0 rfl ?_
      refine j_get (pc := 120) (q0 := 0) (ci := 2) (kf := 5) C dX2_leadAlong_120 in_X2_leadAlong_X2 rfl (by decide) fl_X2_leadAlong_27 rfl rfl ?_
      refine j_iload_n (pc := 123) C dX2_leadAlong_123 rfl 2 rfl ?_
      obtain ⟨h16, hd⟩ := lp_chk hd
      refine j_iald (pc := 124) (q0 := 3) C dX2_leadAlong_124 rfl h16 ?_
      refine j_iload (pc := 125) C dX2_leadAlong_125 4 rfl ?_
      refine j_iadd (pc := 127) C dX2_leadAlong_127 ?_
      obtain ⟨h17, hd⟩ := lp_chk hd
      refine j_iast (pc := 128) (q0 := 3) (ws2 := wd_X2_leadAlong G a_t a_t_borrows a_t_lends a_t_reach a_t_via a_t_worth a_t_wanted a_t_room t_going t_chosen t_borrows t_lends (upd t_reach (v4).toNatClampNeg ((t_reach (v3).toNatClampNeg) + k0)) t_via t_worth) C dX2_leadAlong_128 rfl h17 rfl ?_
      refine j_aload_n (pc := 129) C dX2_leadAlong_129 rfl 0 rfl ?_
      refine j_get (pc := 130) (q0 := 0) (ci := 2) (kf := 6) C dX2_leadAlong_130 in_X2_leadAlong_X2 rfl (by decide) fl_X2_leadAlong_30 rfl rfl ?_
      refine j_iload (pc := 133) C dX2_leadAlong_133 3 rfl ?_
      refine j_iload_n (pc := 135) C dX2_leadAlong_135 rfl 1 rfl ?_
      obtain ⟨h18, hd⟩ := lp_chk hd
      refine j_iast (pc := 136) (q0 := 4) (ws2 := wd_X2_leadAlong G a_t a_t_borrows a_t_lends a_t_reach a_t_via a_t_worth a_t_wanted a_t_room t_going t_chosen t_borrows t_lends (upd t_reach (v4).toNatClampNeg ((t_reach (v3).toNatClampNeg) + k0)) (upd t_via (v4).toNatClampNeg p1) t_worth) C dX2_leadAlong_136 rfl h18 rfl ?_
      refine j_iconst (pc := 137) (v := 1) C dX2_leadAlong_137 jk_I1 ?_
      obtain rfl := Option.some.inj hd
      exact j_zret (pc := 138) C hE dX2_leadAlong_138 rfl rfl rfl
    · have hd := lp_neg c15 hd
      refine j_iconst (pc := 111) (v := 0) C dX2_leadAlong_111 jk_I0 ?_
      obtain rfl := Option.some.inj hd
      exact j_zret (pc := 112) C hE dX2_leadAlong_112 rfl rfl rfl
set_option maxHeartbeats 8000000 in
set_option maxRecDepth 100000 in
theorem la_X2_leadAlong (l : Launch) (G : jG) (a_t : Nat) (a_t_borrows : Nat) (a_t_lends : Nat) (a_t_reach : Nat) (a_t_via : Nat) (a_t_worth : Nat) (a_t_wanted : Nat) (a_t_room : Nat) (t_going : Int32) (t_chosen : Int32) (t_borrows : Nat → Int32) (t_lends : Nat → Int32) (t_worth : Nat → Int32) (p1 : Int32) (X : jX) (C : jC X l G 6 rm_X2_leadAlong cX2_leadAlong RX2 wsX2_leadAlong) (r : Bool × (Nat → Int32) × (Nat → Int32)) (hE : jE X (some .boolean) (some (.int (b2i r.1))) (wd_X2_leadAlong G a_t a_t_borrows a_t_lends a_t_reach a_t_via a_t_worth a_t_wanted a_t_room t_going t_chosen t_borrows t_lends r.2.1 r.2.2 t_worth)) (n : Nat) : (∀ (k0 : Int32) (t_reach : Nat → Int32) (t_via : Nat → Int32), lpN (st_X2_leadAlong t_borrows t_lends t_worth p1) n (.inl (k0, t_reach, t_via)) = some r → J X 0 0 (wd_X2_leadAlong G a_t a_t_borrows a_t_lends a_t_reach a_t_via a_t_worth a_t_wanted a_t_room t_going t_chosen t_borrows t_lends t_reach t_via t_worth) [(0, .ref a_t), (1, .int p1)] 17 [.int k0]) ∧ (∀ (v2 : Int32) (k0 : Int32) (t_reach : Nat → Int32) (t_via : Nat → Int32), lpN (st_X2_leadAlong t_borrows t_lends t_worth p1) n (.inr (.inl (v2, k0, t_reach, t_via))) = some r → J X 0 0 (wd_X2_leadAlong G a_t a_t_borrows a_t_lends a_t_reach a_t_via a_t_worth a_t_wanted a_t_room t_going t_chosen t_borrows t_lends t_reach t_via t_worth) [(0, .ref a_t), (1, .int p1), (2, .int v2)] 37 [.int k0]) ∧ (∀ (v2 : Int32) (v3 : Int32) (k0 : Int32) (t_reach : Nat → Int32) (t_via : Nat → Int32), lpN (st_X2_leadAlong t_borrows t_lends t_worth p1) n (.inr (.inr (.inl (v2, v3, k0, t_reach, t_via)))) = some r → J X 0 0 (wd_X2_leadAlong G a_t a_t_borrows a_t_lends a_t_reach a_t_via a_t_worth a_t_wanted a_t_room t_going t_chosen t_borrows t_lends t_reach t_via t_worth) [(0, .ref a_t), (1, .int p1), (2, .int v2), (3, .int v3)] 57 [.int k0]) ∧ (∀ (v3 : Int32) (v4 : Int32) (k0 : Int32) (t_reach : Nat → Int32) (t_via : Nat → Int32), lpN (st_X2_leadAlong t_borrows t_lends t_worth p1) n (.inr (.inr (.inr ((v3, v4, k0, t_reach, t_via))))) = some r → J X 0 0 (wd_X2_leadAlong G a_t a_t_borrows a_t_lends a_t_reach a_t_via a_t_worth a_t_wanted a_t_room t_going t_chosen t_borrows t_lends t_reach t_via t_worth) [(0, .ref a_t), (1, .int p1), (3, .int v3), (4, .int v4)] 79 [.int k0]) := by
  induction n with
  | zero => exact ⟨(fun k0 t_reach t_via h => by cases h), (fun v2 k0 t_reach t_via h => by cases h), (fun v2 v3 k0 t_reach t_via h => by cases h), (fun v3 v4 k0 t_reach t_via h => by cases h)⟩
  | succ n ih => exact ⟨(fun k0 t_reach t_via h => lb_X2_leadAlong_0 l G a_t a_t_borrows a_t_lends a_t_reach a_t_via a_t_worth a_t_wanted a_t_room t_going t_chosen t_borrows t_lends t_worth p1 X C r hE n (ih.2.1) k0 t_reach t_via (by rw [lpN_succ] at h; exact h)), (fun v2 k0 t_reach t_via h => lb_X2_leadAlong_1 l G a_t a_t_borrows a_t_lends a_t_reach a_t_via a_t_worth a_t_wanted a_t_room t_going t_chosen t_borrows t_lends t_worth p1 X C r hE n (ih.2.2.1) v2 k0 t_reach t_via (by rw [lpN_succ] at h; exact h)), (fun v2 v3 k0 t_reach t_via h => lb_X2_leadAlong_2 l G a_t a_t_borrows a_t_lends a_t_reach a_t_via a_t_worth a_t_wanted a_t_room t_going t_chosen t_borrows t_lends t_worth p1 X C r hE n (ih.2.2.2) v2 v3 k0 t_reach t_via (by rw [lpN_succ] at h; exact h)), (fun v3 v4 k0 t_reach t_via h => lb_X2_leadAlong_3 l G a_t a_t_borrows a_t_lends a_t_reach a_t_via a_t_worth a_t_wanted a_t_room t_going t_chosen t_borrows t_lends t_worth p1 X C r hE n  v3 v4 k0 t_reach t_via (by rw [lpN_succ] at h; exact h))⟩
set_option maxHeartbeats 8000000 in
set_option maxRecDepth 100000 in
theorem ct_X2_leadAlong (l : Launch) (G : jG) (a_t : Nat) (a_t_borrows : Nat) (a_t_lends : Nat) (a_t_reach : Nat) (a_t_via : Nat) (a_t_worth : Nat) (a_t_wanted : Nat) (a_t_room : Nat) (t_going : Int32) (t_chosen : Int32) (t_borrows : Nat → Int32) (t_lends : Nat → Int32) (t_reach : Nat → Int32) (t_via : Nat → Int32) (t_worth : Nat → Int32) (p1 : Int32) (r : Bool × (Nat → Int32) × (Nat → Int32)) (hd : dn_X2_leadAlong t_chosen t_borrows t_lends t_reach t_via t_worth p1 = some r) : jM l G yX2_leadAlong wsX2_leadAlong rm_X2_leadAlong [.ref a_t, .int p1] (wd_X2_leadAlong G a_t a_t_borrows a_t_lends a_t_reach a_t_via a_t_worth a_t_wanted a_t_room t_going t_chosen t_borrows t_lends t_reach t_via t_worth) (some (.int (b2i r.1))) (wd_X2_leadAlong G a_t a_t_borrows a_t_lends a_t_reach a_t_via a_t_worth a_t_wanted a_t_room t_going t_chosen t_borrows t_lends r.2.1 r.2.2 t_worth) := by
  refine jM_of (own := RX2) (by decide) rfl rfl rfl (Nat.le_of_ble_eq_true rfl) (lv0 := [(0, .ref a_t), (1, .int p1)]) rfl (fun X C hE => ?_)
  unfold dn_X2_leadAlong at hd
  refine j_aload_n (pc := 0) C dX2_leadAlong_0 rfl 0 rfl ?_
  refine j_get (pc := 1) (q0 := 0) (ci := 2) (kf := 8) C dX2_leadAlong_1 in_X2_leadAlong_X2 rfl (by decide) fl_X2_leadAlong_37 rfl rfl ?_
  refine j_iload_n (pc := 4) C dX2_leadAlong_4 rfl 1 rfl ?_
  refine j_ishr (pc := 5) C dX2_leadAlong_5 ?_
  refine j_iconst (pc := 6) (v := 1) C dX2_leadAlong_6 jk_I1 ?_
  refine j_iand (pc := 7) C dX2_leadAlong_7 ?_
  refine j_iconst (pc := 8) (v := 1) C dX2_leadAlong_8 jk_I1 ?_
  refine j_icmp_ne (pc := 9) (tgt := 16) C dX2_leadAlong_9 (by decide) (fun c1 => ?_) (fun c1 => ?_)
  · have hd := ob_neg c1 hd
    refine j_iconst (pc := 16) (v := 0) C dX2_leadAlong_16 jk_I0 ?_
    refine j_sub (lv2 := [(0, .ref a_t), (1, .int p1)]) [0, 1] rfl ?_
    obtain ⟨n, hn⟩ := lpC_ex hd
    exact (la_X2_leadAlong l G a_t a_t_borrows a_t_lends a_t_reach a_t_via a_t_worth a_t_wanted a_t_room t_going t_chosen t_borrows t_lends t_worth p1 X C r hE n).1 0 t_reach t_via hn
  · have hd := ob_pos c1 hd
    refine j_iconst (pc := 12) (v := 1) C dX2_leadAlong_12 jk_I1 ?_
    refine j_goto (pc := 13) (tgt := 17) C dX2_leadAlong_13 (by decide) ?_
    refine j_sub (lv2 := [(0, .ref a_t), (1, .int p1)]) [0, 1] rfl ?_
    obtain ⟨n, hn⟩ := lpC_ex hd
    exact (la_X2_leadAlong l G a_t a_t_borrows a_t_lends a_t_reach a_t_via a_t_worth a_t_wanted a_t_room t_going t_chosen t_borrows t_lends t_worth p1 X C r hE n).1 1 t_reach t_via hn
/-! ##### LendTown$Flow.spread(II)V -/
abbrev rm_X2_spread : Room := { frames := 1, cells := 0, slots := 0, locals := 25 }
theorem jy_X2_spread : jY yX2_spread wsX2_spread rm_X2_spread cX2_spread 6 none 2 := ⟨⟨_, rfl⟩, ⟨rfl, rfl⟩, by decide, by decide, by decide +kernel⟩
theorem in_X2_spread_X2 : ∀ w ∈ u_ws RX2 TX2 9, w ∈ wsX2_spread := fun w h => List.mem_cons_of_mem _ (List.mem_append_right _ (h))
theorem fl_X2_spread_24 : Cond.fieldLink RX2 24 "LendTown$Flow" "room" "[I" ∈ wsX2_spread := List.mem_of_getElem? (i := 1) rfl
theorem fl_X2_spread_27 : Cond.fieldLink RX2 27 "LendTown$Flow" "reach" "[I" ∈ wsX2_spread := List.mem_of_getElem? (i := 2) rfl
theorem fl_X2_spread_30 : Cond.fieldLink RX2 30 "LendTown$Flow" "via" "[I" ∈ wsX2_spread := List.mem_of_getElem? (i := 4) rfl
theorem fl_X2_spread_33 : Cond.fieldLink RX2 33 "LendTown$Flow" "going" "I" ∈ wsX2_spread := List.mem_of_getElem? (i := 5) rfl
def wd_X2_spread (G : jG) (a_t : Nat) (a_t_borrows : Nat) (a_t_lends : Nat) (a_t_reach : Nat) (a_t_room : Nat) (a_t_via : Nat) (a_t_worth : Nat) (a_t_wanted : Nat) (t_going : Int32) (t_chosen : Int32) (t_borrows : Nat → Int32) (t_lends : Nat → Int32) (t_reach : Nat → Int32) (t_room : Nat → Int32) (t_via : Nat → Int32) (t_worth : Nat → Int32) : va_W := [(a_t, .inr (2, [.ref a_t_lends, .ref a_t_borrows, .ref a_t_worth, .ref a_t_wanted, .ref a_t_room, .ref a_t_reach, .ref a_t_via, .int t_going, .int t_chosen])), (a_t_borrows, .inl (G.2.2.1, 30, .inl t_borrows)), (a_t_lends, .inl (G.2.2.1, 30, .inl t_lends)), (a_t_reach, .inl (G.2.2.1, 10, .inl t_reach)), (a_t_room, .inl (G.2.2.1, 10, .inl t_room)), (a_t_via, .inl (G.2.2.1, 10, .inl t_via)), (a_t_worth, .inl (G.2.2.1, 30, .inl t_worth))]
set_option maxHeartbeats 8000000 in
set_option maxRecDepth 100000 in
theorem lb_X2_spread_0 (l : Launch) (G : jG) (a_t : Nat) (a_t_borrows : Nat) (a_t_lends : Nat) (a_t_reach : Nat) (a_t_room : Nat) (a_t_via : Nat) (a_t_worth : Nat) (a_t_wanted : Nat) (t_going : Int32) (t_chosen : Int32) (t_borrows : Nat → Int32) (t_lends : Nat → Int32) (t_room : Nat → Int32) (t_worth : Nat → Int32) (p1 : Int32) (p2 : Int32) (X : jX) (C : jC X l G 6 rm_X2_spread cX2_spread RX2 wsX2_spread) (r : (Nat → Int32) × (Nat → Int32)) (hE : jE X none none (wd_X2_spread G a_t a_t_borrows a_t_lends a_t_reach a_t_room a_t_via a_t_worth a_t_wanted t_going t_chosen t_borrows t_lends r.1 t_room r.2 t_worth)) (n : Nat) (IH1 : ∀ (v3 : Int32) (v4 : Int32) (t_reach : Nat → Int32) (t_via : Nat → Int32), lpN (st_X2_spread t_going t_chosen t_borrows t_lends t_room t_worth p1 p2) n (.inr (.inl (v3, v4, t_reach, t_via))) = some r → J X 0 0 (wd_X2_spread G a_t a_t_borrows a_t_lends a_t_reach a_t_room a_t_via a_t_worth a_t_wanted t_going t_chosen t_borrows t_lends t_reach t_room t_via t_worth) [(0, .ref a_t), (3, .int v3), (4, .int v4)] 67 []) (IH2 : ∀ (v3 : Int32) (k0 : Int32) (t_reach : Nat → Int32) (t_via : Nat → Int32), lpN (st_X2_spread t_going t_chosen t_borrows t_lends t_room t_worth p1 p2) n (.inr (.inr (.inl (v3, k0, t_reach, t_via)))) = some r → J X 0 0 (wd_X2_spread G a_t a_t_borrows a_t_lends a_t_reach a_t_room a_t_via a_t_worth a_t_wanted t_going t_chosen t_borrows t_lends t_reach t_room t_via t_worth) [(0, .ref a_t), (1, .int p1), (2, .int p2), (3, .int v3)] 30 [.int k0]) (v3 : Int32) (t_reach : Nat → Int32) (t_via : Nat → Int32) (hd : lpR (st_X2_spread t_going t_chosen t_borrows t_lends t_room t_worth p1 p2) n (bd_X2_spread_0 t_going t_chosen t_borrows t_lends t_room t_worth p1 p2 v3 t_reach t_via) = some r) : J X 0 0 (wd_X2_spread G a_t a_t_borrows a_t_lends a_t_reach a_t_room a_t_via a_t_worth a_t_wanted t_going t_chosen t_borrows t_lends t_reach t_room t_via t_worth) [(0, .ref a_t), (1, .int p1), (2, .int p2), (3, .int v3)] 2 [] := by
  unfold bd_X2_spread_0 at hd
  refine j_iload_n (pc := 2) C dX2_spread_2 rfl 3 rfl ?_
  refine j_iload_n (pc := 3) C dX2_spread_3 rfl 1 rfl ?_
  refine j_icmp_ge (pc := 4) (tgt := 62) C dX2_spread_4 (by decide) (fun c1 => ?_) (fun c1 => ?_)
  · have hd := lp_pos c1 hd
    refine j_iconst (pc := 62) (v := 1) C dX2_spread_62 jk_I1 ?_
    refine j_istore_n (pc := 63) (lv2 := [(0, .ref a_t), (3, .int 1)]) C dX2_spread_63 rfl (by decide) [1, 0] rfl ?_
    refine j_iconst (pc := 64) (v := 0) C dX2_spread_64 jk_I0 ?_
    refine j_istore (pc := 65) (lv2 := [(0, .ref a_t), (3, .int 1), (4, .int 0)]) C dX2_spread_65 (by decide) [1, 2, 0] rfl ?_
    refine j_sub (lv2 := [(0, .ref a_t), (3, .int 1), (4, .int 0)]) [0, 1, 2] rfl ?_
    exact IH1 1 0 t_reach t_via hd
  · have hd := lp_neg c1 hd
    refine j_iload_n (pc := 7) C dX2_spread_7 rfl 2 rfl ?_
    refine j_iload_n (pc := 8) C dX2_spread_8 rfl 3 rfl ?_
    refine j_ishr (pc := 9) C dX2_spread_9 ?_
    refine j_iconst (pc := 10) (v := 1) C dX2_spread_10 jk_I1 ?_
    refine j_iand (pc := 11) C dX2_spread_11 ?_
    refine j_iconst (pc := 12) (v := 1) C dX2_spread_12 jk_I1 ?_
    refine j_icmp_ne (pc := 13) (tgt := 29) C dX2_spread_13 (by decide) (fun c2 => ?_) (fun c2 => ?_)
    · have hd := lp_neg c2 hd
      refine j_iconst (pc := 29) (v := 0) C dX2_spread_29 jk_I0 ?_
      refine j_sub (lv2 := [(0, .ref a_t), (1, .int p1), (2, .int p2), (3, .int v3)]) [0, 1, 2, 3] rfl ?_
      exact IH2 v3 0 t_reach t_via hd
    · have hd := lp_pos c2 hd
      refine j_aload_n (pc := 16) C dX2_spread_16 rfl 0 rfl ?_
      refine j_get (pc := 17) (q0 := 0) (ci := 2) (kf := 4) C dX2_spread_17 in_X2_spread_X2 rfl (by decide) fl_X2_spread_24 rfl rfl ?_
      refine j_iload_n (pc := 20) C dX2_spread_20 rfl 3 rfl ?_
      obtain ⟨h3, hd⟩ := lp_chk hd
      refine j_iald (pc := 21) (q0 := 4) C dX2_spread_21 rfl h3 ?_
      refine j_if_le (pc := 22) (tgt := 29) C dX2_spread_22 (by decide) (fun c4 => ?_) (fun c4 => ?_)
      · have hd := lp_pos c4 hd
        refine j_iconst (pc := 29) (v := 0) C dX2_spread_29 jk_I0 ?_
        refine j_sub (lv2 := [(0, .ref a_t), (1, .int p1), (2, .int p2), (3, .int v3)]) [0, 1, 2, 3] rfl ?_
        exact IH2 v3 0 t_reach t_via hd
      · have hd := lp_neg c4 hd
        refine j_iconst (pc := 25) (v := 1) C dX2_spread_25 jk_I1 ?_
        refine j_goto (pc := 26) (tgt := 30) C dX2_spread_26 (by decide) ?_
        refine j_sub (lv2 := [(0, .ref a_t), (1, .int p1), (2, .int p2), (3, .int v3)]) [0, 1, 2, 3] rfl ?_
        exact IH2 v3 1 t_reach t_via hd
set_option maxHeartbeats 8000000 in
set_option maxRecDepth 100000 in
theorem lb_X2_spread_1 (l : Launch) (G : jG) (a_t : Nat) (a_t_borrows : Nat) (a_t_lends : Nat) (a_t_reach : Nat) (a_t_room : Nat) (a_t_via : Nat) (a_t_worth : Nat) (a_t_wanted : Nat) (t_going : Int32) (t_chosen : Int32) (t_borrows : Nat → Int32) (t_lends : Nat → Int32) (t_room : Nat → Int32) (t_worth : Nat → Int32) (p1 : Int32) (p2 : Int32) (X : jX) (C : jC X l G 6 rm_X2_spread cX2_spread RX2 wsX2_spread) (r : (Nat → Int32) × (Nat → Int32)) (hE : jE X none none (wd_X2_spread G a_t a_t_borrows a_t_lends a_t_reach a_t_room a_t_via a_t_worth a_t_wanted t_going t_chosen t_borrows t_lends r.1 t_room r.2 t_worth)) (n : Nat) (IH3 : ∀ (v3 : Int32) (v4 : Int32) (v5 : Int32) (t_reach : Nat → Int32) (t_via : Nat → Int32), lpN (st_X2_spread t_going t_chosen t_borrows t_lends t_room t_worth p1 p2) n (.inr (.inr (.inr ((v3, v4, v5, t_reach, t_via))))) = some r → J X 0 0 (wd_X2_spread G a_t a_t_borrows a_t_lends a_t_reach a_t_room a_t_via a_t_worth a_t_wanted t_going t_chosen t_borrows t_lends t_reach t_room t_via t_worth) [(0, .ref a_t), (3, .int v3), (4, .int v4), (5, .int v5)] 83 []) (v3 : Int32) (v4 : Int32) (t_reach : Nat → Int32) (t_via : Nat → Int32) (hd : lpR (st_X2_spread t_going t_chosen t_borrows t_lends t_room t_worth p1 p2) n (bd_X2_spread_1 t_going t_chosen t_borrows t_lends t_room t_worth p1 p2 v3 v4 t_reach t_via) = some r) : J X 0 0 (wd_X2_spread G a_t a_t_borrows a_t_lends a_t_reach a_t_room a_t_via a_t_worth a_t_wanted t_going t_chosen t_borrows t_lends t_reach t_room t_via t_worth) [(0, .ref a_t), (3, .int v3), (4, .int v4)] 67 [] := by
  unfold bd_X2_spread_1 at hd
  refine j_iload (pc := 67) C dX2_spread_67 2 rfl ?_
  refine j_bipush (pc := 69) (v := 10) C dX2_spread_69 jk_B10 ?_
  refine j_icmp_gt (pc := 71) (tgt := 115) C dX2_spread_71 (by decide) (fun c5 => ?_) (fun c5 => ?_)
  · have hd := lp_pos c5 hd
    obtain rfl := Option.some.inj hd
    exact j_vret (pc := 115) C hE dX2_spread_115 rfl rfl
  · have hd := lp_neg c5 hd
    refine j_iload_n (pc := 74) C dX2_spread_74 rfl 1 rfl ?_
    refine j_if_eq (pc := 75) (tgt := 115) C dX2_spread_75 (by decide) (fun c6 => ?_) (fun c6 => ?_)
    · have hd := lp_pos c6 hd
      obtain rfl := Option.some.inj hd
      exact j_vret (pc := 115) C hE dX2_spread_115 rfl rfl
    · have hd := lp_neg c6 hd
      refine j_iconst (pc := 78) (v := 0) C dX2_spread_78 jk_I0 ?_
      refine j_istore_n (pc := 79) (lv2 := [(0, .ref a_t), (3, .int 0), (4, .int v4)]) C dX2_spread_79 rfl (by decide) [1, 0, 2] rfl ?_
      refine j_iconst (pc := 80) (v := 0) C dX2_spread_80 jk_I0 ?_
      refine j_istore (pc := 81) (lv2 := [(0, .ref a_t), (3, .int 0), (4, .int v4), (5, .int 0)]) C dX2_spread_81 (by decide) [1, 2, 3, 0] rfl ?_
      refine j_sub (lv2 := [(0, .ref a_t), (3, .int 0), (4, .int v4), (5, .int 0)]) [0, 1, 2, 3] rfl ?_
      exact IH3 0 v4 0 t_reach t_via hd
set_option maxHeartbeats 8000000 in
set_option maxRecDepth 100000 in
theorem lb_X2_spread_2 (l : Launch) (G : jG) (a_t : Nat) (a_t_borrows : Nat) (a_t_lends : Nat) (a_t_reach : Nat) (a_t_room : Nat) (a_t_via : Nat) (a_t_worth : Nat) (a_t_wanted : Nat) (t_going : Int32) (t_chosen : Int32) (t_borrows : Nat → Int32) (t_lends : Nat → Int32) (t_room : Nat → Int32) (t_worth : Nat → Int32) (p1 : Int32) (p2 : Int32) (X : jX) (C : jC X l G 6 rm_X2_spread cX2_spread RX2 wsX2_spread) (r : (Nat → Int32) × (Nat → Int32)) (hE : jE X none none (wd_X2_spread G a_t a_t_borrows a_t_lends a_t_reach a_t_room a_t_via a_t_worth a_t_wanted t_going t_chosen t_borrows t_lends r.1 t_room r.2 t_worth)) (n : Nat) (IH0 : ∀ (v3 : Int32) (t_reach : Nat → Int32) (t_via : Nat → Int32), lpN (st_X2_spread t_going t_chosen t_borrows t_lends t_room t_worth p1 p2) n (.inl (v3, t_reach, t_via)) = some r → J X 0 0 (wd_X2_spread G a_t a_t_borrows a_t_lends a_t_reach a_t_room a_t_via a_t_worth a_t_wanted t_going t_chosen t_borrows t_lends t_reach t_room t_via t_worth) [(0, .ref a_t), (1, .int p1), (2, .int p2), (3, .int v3)] 2 []) (v3 : Int32) (k0 : Int32) (t_reach : Nat → Int32) (t_via : Nat → Int32) (hd : lpR (st_X2_spread t_going t_chosen t_borrows t_lends t_room t_worth p1 p2) n (bd_X2_spread_2 t_going t_chosen t_borrows t_lends t_room t_worth p1 p2 v3 k0 t_reach t_via) = some r) : J X 0 0 (wd_X2_spread G a_t a_t_borrows a_t_lends a_t_reach a_t_room a_t_via a_t_worth a_t_wanted t_going t_chosen t_borrows t_lends t_reach t_room t_via t_worth) [(0, .ref a_t), (1, .int p1), (2, .int p2), (3, .int v3)] 30 [.int k0] := by
  unfold bd_X2_spread_2 at hd
  refine j_istore (pc := 30) (lv2 := [(0, .ref a_t), (1, .int p1), (2, .int p2), (3, .int v3), (4, .int k0)]) C dX2_spread_30 (by decide) [1, 2, 3, 4, 0] rfl ?_
  refine j_aload_n (pc := 32) C dX2_spread_32 rfl 0 rfl ?_
  refine j_get (pc := 33) (q0 := 0) (ci := 2) (kf := 5) C dX2_spread_33 in_X2_spread_X2 rfl (by decide) fl_X2_spread_27 rfl rfl ?_
  refine j_iload_n (pc := 36) C dX2_spread_36 rfl 3 rfl ?_
  refine j_iload (pc := 37) C dX2_spread_37 4 rfl ?_
  refine j_if_eq (pc := 39) (tgt := 46) C dX2_spread_39 (by decide) (fun c7 => ?_) (fun c7 => ?_)
  · have hd := lp_pos c7 hd
    refine j_ldc (pc := 46) (v := (-1000000)) C dX2_spread_46 (List.mem_of_getElem? (i := 3) rfl) ?_
    obtain ⟨h8, hd⟩ := lp_chk hd
    refine j_iast (pc := 48) (q0 := 3) (ws2 := wd_X2_spread G a_t a_t_borrows a_t_lends a_t_reach a_t_room a_t_via a_t_worth a_t_wanted t_going t_chosen t_borrows t_lends (upd t_reach (v3).toNatClampNeg (-1000000)) t_room t_via t_worth) C dX2_spread_48 rfl h8 rfl ?_
    refine j_aload_n (pc := 49) C dX2_spread_49 rfl 0 rfl ?_
    refine j_get (pc := 50) (q0 := 0) (ci := 2) (kf := 6) C dX2_spread_50 in_X2_spread_X2 rfl (by decide) fl_X2_spread_30 rfl rfl ?_
    refine j_iload_n (pc := 53) C dX2_spread_53 rfl 3 rfl ?_
    refine j_iconst (pc := 54) (v := (-1)) C dX2_spread_54 jk_Im1 ?_
    obtain ⟨h9, hd⟩ := lp_chk hd
    refine j_iast (pc := 55) (q0 := 5) (ws2 := wd_X2_spread G a_t a_t_borrows a_t_lends a_t_reach a_t_room a_t_via a_t_worth a_t_wanted t_going t_chosen t_borrows t_lends (upd t_reach (v3).toNatClampNeg (-1000000)) t_room (upd t_via (v3).toNatClampNeg (-1)) t_worth) C dX2_spread_55 rfl h9 rfl ?_
    refine j_iinc (pc := 56) (lv2 := [(0, .ref a_t), (1, .int p1), (2, .int p2), (3, .int (v3 + 1)), (4, .int k0)]) C dX2_spread_56 jk_I1 (by decide) 3 rfl [1, 2, 3, 0, 4] rfl ?_
    refine j_goto (pc := 59) (tgt := 2) C dX2_spread_59 (by decide) ?_
    refine j_sub (lv2 := [(0, .ref a_t), (1, .int p1), (2, .int p2), (3, .int (v3 + 1))]) [0, 1, 2, 3] rfl ?_
    exact IH0 (v3 + 1) (upd t_reach (v3).toNatClampNeg (-1000000)) (upd t_via (v3).toNatClampNeg (-1)) hd
  · have hd := lp_neg c7 hd
    refine j_iconst (pc := 42) (v := 0) C dX2_spread_42 jk_I0 ?_
    refine j_goto (pc := 43) (tgt := 48) C dX2_spread_43 (by decide) ?_
    obtain ⟨h10, hd⟩ := lp_chk hd
    refine j_iast (pc := 48) (q0 := 3) (ws2 := wd_X2_spread G a_t a_t_borrows a_t_lends a_t_reach a_t_room a_t_via a_t_worth a_t_wanted t_going t_chosen t_borrows t_lends (upd t_reach (v3).toNatClampNeg 0) t_room t_via t_worth) C dX2_spread_48 rfl h10 rfl ?_
    refine j_aload_n (pc := 49) C dX2_spread_49 rfl 0 rfl ?_
    refine j_get (pc := 50) (q0 := 0) (ci := 2) (kf := 6) C dX2_spread_50 in_X2_spread_X2 rfl (by decide) fl_X2_spread_30 rfl rfl ?_
    refine j_iload_n (pc := 53) C dX2_spread_53 rfl 3 rfl ?_
    refine j_iconst (pc := 54) (v := (-1)) C dX2_spread_54 jk_Im1 ?_
    obtain ⟨h11, hd⟩ := lp_chk hd
    refine j_iast (pc := 55) (q0 := 5) (ws2 := wd_X2_spread G a_t a_t_borrows a_t_lends a_t_reach a_t_room a_t_via a_t_worth a_t_wanted t_going t_chosen t_borrows t_lends (upd t_reach (v3).toNatClampNeg 0) t_room (upd t_via (v3).toNatClampNeg (-1)) t_worth) C dX2_spread_55 rfl h11 rfl ?_
    refine j_iinc (pc := 56) (lv2 := [(0, .ref a_t), (1, .int p1), (2, .int p2), (3, .int (v3 + 1)), (4, .int k0)]) C dX2_spread_56 jk_I1 (by decide) 3 rfl [1, 2, 3, 0, 4] rfl ?_
    refine j_goto (pc := 59) (tgt := 2) C dX2_spread_59 (by decide) ?_
    refine j_sub (lv2 := [(0, .ref a_t), (1, .int p1), (2, .int p2), (3, .int (v3 + 1))]) [0, 1, 2, 3] rfl ?_
    exact IH0 (v3 + 1) (upd t_reach (v3).toNatClampNeg 0) (upd t_via (v3).toNatClampNeg (-1)) hd
set_option maxHeartbeats 8000000 in
set_option maxRecDepth 100000 in
theorem lb_X2_spread_3 (l : Launch) (G : jG) (a_t : Nat) (a_t_borrows : Nat) (a_t_lends : Nat) (a_t_reach : Nat) (a_t_room : Nat) (a_t_via : Nat) (a_t_worth : Nat) (a_t_wanted : Nat) (t_going : Int32) (t_chosen : Int32) (t_borrows : Nat → Int32) (t_lends : Nat → Int32) (t_room : Nat → Int32) (t_worth : Nat → Int32) (p1 : Int32) (p2 : Int32) (X : jX) (C : jC X l G 6 rm_X2_spread cX2_spread RX2 wsX2_spread) (r : (Nat → Int32) × (Nat → Int32)) (hE : jE X none none (wd_X2_spread G a_t a_t_borrows a_t_lends a_t_reach a_t_room a_t_via a_t_worth a_t_wanted t_going t_chosen t_borrows t_lends r.1 t_room r.2 t_worth)) (n : Nat) (IH1 : ∀ (v3 : Int32) (v4 : Int32) (t_reach : Nat → Int32) (t_via : Nat → Int32), lpN (st_X2_spread t_going t_chosen t_borrows t_lends t_room t_worth p1 p2) n (.inr (.inl (v3, v4, t_reach, t_via))) = some r → J X 0 0 (wd_X2_spread G a_t a_t_borrows a_t_lends a_t_reach a_t_room a_t_via a_t_worth a_t_wanted t_going t_chosen t_borrows t_lends t_reach t_room t_via t_worth) [(0, .ref a_t), (3, .int v3), (4, .int v4)] 67 []) (IH3 : ∀ (v3 : Int32) (v4 : Int32) (v5 : Int32) (t_reach : Nat → Int32) (t_via : Nat → Int32), lpN (st_X2_spread t_going t_chosen t_borrows t_lends t_room t_worth p1 p2) n (.inr (.inr (.inr ((v3, v4, v5, t_reach, t_via))))) = some r → J X 0 0 (wd_X2_spread G a_t a_t_borrows a_t_lends a_t_reach a_t_room a_t_via a_t_worth a_t_wanted t_going t_chosen t_borrows t_lends t_reach t_room t_via t_worth) [(0, .ref a_t), (3, .int v3), (4, .int v4), (5, .int v5)] 83 []) (v3 : Int32) (v4 : Int32) (v5 : Int32) (t_reach : Nat → Int32) (t_via : Nat → Int32) (hd : lpR (st_X2_spread t_going t_chosen t_borrows t_lends t_room t_worth p1 p2) n (bd_X2_spread_3 t_going t_chosen t_borrows t_lends t_room t_worth p1 p2 v3 v4 v5 t_reach t_via) = some r) : J X 0 0 (wd_X2_spread G a_t a_t_borrows a_t_lends a_t_reach a_t_room a_t_via a_t_worth a_t_wanted t_going t_chosen t_borrows t_lends t_reach t_room t_via t_worth) [(0, .ref a_t), (3, .int v3), (4, .int v4), (5, .int v5)] 83 [] := by
  unfold bd_X2_spread_3 at hd
  refine j_iload (pc := 83) C dX2_spread_83 3 rfl ?_
  refine j_aload_n (pc := 85) C dX2_spread_85 rfl 0 rfl ?_
  refine j_get (pc := 86) (q0 := 0) (ci := 2) (kf := 7) C dX2_spread_86 in_X2_spread_X2 rfl (by decide) fl_X2_spread_33 rfl rfl ?_
  refine j_icmp_ge (pc := 89) (tgt := 109) C dX2_spread_89 (by decide) (fun c12 => ?_) (fun c12 => ?_)
  · have hd := lp_pos c12 hd
    refine j_iinc (pc := 109) (lv2 := [(0, .ref a_t), (3, .int v3), (4, .int (v4 + 1)), (5, .int v5)]) C dX2_spread_109 jk_I1 (by decide) 2 rfl [1, 2, 0, 3] rfl ?_
    refine j_goto (pc := 112) (tgt := 67) C dX2_spread_112 (by decide) ?_
    refine j_sub (lv2 := [(0, .ref a_t), (3, .int v3), (4, .int (v4 + 1))]) [0, 1, 2] rfl ?_
    exact IH1 v3 (v4 + 1) t_reach t_via hd
  · have hd := lp_neg c12 hd
    refine j_aload_n (pc := 92) C dX2_spread_92 rfl 0 rfl ?_
    refine j_iload (pc := 93) C dX2_spread_93 3 rfl ?_
    obtain ⟨q13, eq13, hd⟩ := lp_bind hd
    refine j_callV (pc := 95) (q0 := 0) (ci := 2) (As := [.int v5]) (rest := []) (st2 := [.int (b2i q13.1)]) (ws2 := wd_X2_spread G a_t a_t_borrows a_t_lends a_t_reach a_t_room a_t_via a_t_worth a_t_wanted t_going t_chosen t_borrows t_lends q13.2.1 t_room q13.2.2 t_worth) C (ct_X2_leadAlong l G a_t a_t_borrows a_t_lends a_t_reach a_t_via a_t_worth a_t_wanted a_t_room t_going t_chosen t_borrows t_lends t_reach t_via t_worth v5 q13 eq13) jy_X2_leadAlong dX2_spread_95 gX2_spread_X2_leadAlong rfl rfl (by decide) ⟨Nat.zero_le _, Nat.zero_le _⟩ [0, 1, 2, 3, 5, 6] rfl rfl (jpt_eq rfl rfl rfl) rfl rfl rfl (Nat.le_of_ble_eq_true rfl) rfl ?_
    refine j_ifb_eq (pc := 98) (tgt := 103) C dX2_spread_98 (by decide) (fun c14 => ?_) (fun c14 => ?_)
    · have hd := lp_neg c14 hd
      refine j_iinc (pc := 103) (lv2 := [(0, .ref a_t), (3, .int v3), (4, .int v4), (5, .int (v5 + 1))]) C dX2_spread_103 jk_I1 (by decide) 3 rfl [1, 2, 3, 0] rfl ?_
      refine j_goto (pc := 106) (tgt := 83) C dX2_spread_106 (by decide) ?_
      refine j_sub (lv2 := [(0, .ref a_t), (3, .int v3), (4, .int v4), (5, .int (v5 + 1))]) [0, 1, 2, 3] rfl ?_
      exact IH3 v3 v4 (v5 + 1) q13.2.1 q13.2.2 hd
    · have hd := lp_pos c14 hd
      refine j_iconst (pc := 101) (v := 1) C dX2_spread_101 jk_I1 ?_
      refine j_istore_n (pc := 102) (lv2 := [(0, .ref a_t), (3, .int 1), (4, .int v4), (5, .int v5)]) C dX2_spread_102 rfl (by decide) [1, 0, 2, 3] rfl ?_
      refine j_iinc (pc := 103) (lv2 := [(0, .ref a_t), (3, .int 1), (4, .int v4), (5, .int (v5 + 1))]) C dX2_spread_103 jk_I1 (by decide) 3 rfl [1, 2, 3, 0] rfl ?_
      refine j_goto (pc := 106) (tgt := 83) C dX2_spread_106 (by decide) ?_
      refine j_sub (lv2 := [(0, .ref a_t), (3, .int 1), (4, .int v4), (5, .int (v5 + 1))]) [0, 1, 2, 3] rfl ?_
      exact IH3 1 v4 (v5 + 1) q13.2.1 q13.2.2 hd
set_option maxHeartbeats 8000000 in
set_option maxRecDepth 100000 in
theorem la_X2_spread (l : Launch) (G : jG) (a_t : Nat) (a_t_borrows : Nat) (a_t_lends : Nat) (a_t_reach : Nat) (a_t_room : Nat) (a_t_via : Nat) (a_t_worth : Nat) (a_t_wanted : Nat) (t_going : Int32) (t_chosen : Int32) (t_borrows : Nat → Int32) (t_lends : Nat → Int32) (t_room : Nat → Int32) (t_worth : Nat → Int32) (p1 : Int32) (p2 : Int32) (X : jX) (C : jC X l G 6 rm_X2_spread cX2_spread RX2 wsX2_spread) (r : (Nat → Int32) × (Nat → Int32)) (hE : jE X none none (wd_X2_spread G a_t a_t_borrows a_t_lends a_t_reach a_t_room a_t_via a_t_worth a_t_wanted t_going t_chosen t_borrows t_lends r.1 t_room r.2 t_worth)) (n : Nat) : (∀ (v3 : Int32) (t_reach : Nat → Int32) (t_via : Nat → Int32), lpN (st_X2_spread t_going t_chosen t_borrows t_lends t_room t_worth p1 p2) n (.inl (v3, t_reach, t_via)) = some r → J X 0 0 (wd_X2_spread G a_t a_t_borrows a_t_lends a_t_reach a_t_room a_t_via a_t_worth a_t_wanted t_going t_chosen t_borrows t_lends t_reach t_room t_via t_worth) [(0, .ref a_t), (1, .int p1), (2, .int p2), (3, .int v3)] 2 []) ∧ (∀ (v3 : Int32) (v4 : Int32) (t_reach : Nat → Int32) (t_via : Nat → Int32), lpN (st_X2_spread t_going t_chosen t_borrows t_lends t_room t_worth p1 p2) n (.inr (.inl (v3, v4, t_reach, t_via))) = some r → J X 0 0 (wd_X2_spread G a_t a_t_borrows a_t_lends a_t_reach a_t_room a_t_via a_t_worth a_t_wanted t_going t_chosen t_borrows t_lends t_reach t_room t_via t_worth) [(0, .ref a_t), (3, .int v3), (4, .int v4)] 67 []) ∧ (∀ (v3 : Int32) (k0 : Int32) (t_reach : Nat → Int32) (t_via : Nat → Int32), lpN (st_X2_spread t_going t_chosen t_borrows t_lends t_room t_worth p1 p2) n (.inr (.inr (.inl (v3, k0, t_reach, t_via)))) = some r → J X 0 0 (wd_X2_spread G a_t a_t_borrows a_t_lends a_t_reach a_t_room a_t_via a_t_worth a_t_wanted t_going t_chosen t_borrows t_lends t_reach t_room t_via t_worth) [(0, .ref a_t), (1, .int p1), (2, .int p2), (3, .int v3)] 30 [.int k0]) ∧ (∀ (v3 : Int32) (v4 : Int32) (v5 : Int32) (t_reach : Nat → Int32) (t_via : Nat → Int32), lpN (st_X2_spread t_going t_chosen t_borrows t_lends t_room t_worth p1 p2) n (.inr (.inr (.inr ((v3, v4, v5, t_reach, t_via))))) = some r → J X 0 0 (wd_X2_spread G a_t a_t_borrows a_t_lends a_t_reach a_t_room a_t_via a_t_worth a_t_wanted t_going t_chosen t_borrows t_lends t_reach t_room t_via t_worth) [(0, .ref a_t), (3, .int v3), (4, .int v4), (5, .int v5)] 83 []) := by
  induction n with
  | zero => exact ⟨(fun v3 t_reach t_via h => by cases h), (fun v3 v4 t_reach t_via h => by cases h), (fun v3 k0 t_reach t_via h => by cases h), (fun v3 v4 v5 t_reach t_via h => by cases h)⟩
  | succ n ih => exact ⟨(fun v3 t_reach t_via h => lb_X2_spread_0 l G a_t a_t_borrows a_t_lends a_t_reach a_t_room a_t_via a_t_worth a_t_wanted t_going t_chosen t_borrows t_lends t_room t_worth p1 p2 X C r hE n (ih.2.1) (ih.2.2.1) v3 t_reach t_via (by rw [lpN_succ] at h; exact h)), (fun v3 v4 t_reach t_via h => lb_X2_spread_1 l G a_t a_t_borrows a_t_lends a_t_reach a_t_room a_t_via a_t_worth a_t_wanted t_going t_chosen t_borrows t_lends t_room t_worth p1 p2 X C r hE n (ih.2.2.2) v3 v4 t_reach t_via (by rw [lpN_succ] at h; exact h)), (fun v3 k0 t_reach t_via h => lb_X2_spread_2 l G a_t a_t_borrows a_t_lends a_t_reach a_t_room a_t_via a_t_worth a_t_wanted t_going t_chosen t_borrows t_lends t_room t_worth p1 p2 X C r hE n (ih.1) v3 k0 t_reach t_via (by rw [lpN_succ] at h; exact h)), (fun v3 v4 v5 t_reach t_via h => lb_X2_spread_3 l G a_t a_t_borrows a_t_lends a_t_reach a_t_room a_t_via a_t_worth a_t_wanted t_going t_chosen t_borrows t_lends t_room t_worth p1 p2 X C r hE n (ih.2.1) (ih.2.2.2) v3 v4 v5 t_reach t_via (by rw [lpN_succ] at h; exact h))⟩
set_option maxHeartbeats 8000000 in
set_option maxRecDepth 100000 in
theorem ct_X2_spread (l : Launch) (G : jG) (a_t : Nat) (a_t_borrows : Nat) (a_t_lends : Nat) (a_t_reach : Nat) (a_t_room : Nat) (a_t_via : Nat) (a_t_worth : Nat) (a_t_wanted : Nat) (t_going : Int32) (t_chosen : Int32) (t_borrows : Nat → Int32) (t_lends : Nat → Int32) (t_reach : Nat → Int32) (t_room : Nat → Int32) (t_via : Nat → Int32) (t_worth : Nat → Int32) (p1 : Int32) (p2 : Int32) (r : (Nat → Int32) × (Nat → Int32)) (hd : dn_X2_spread t_going t_chosen t_borrows t_lends t_reach t_room t_via t_worth p1 p2 = some r) : jM l G yX2_spread wsX2_spread rm_X2_spread [.ref a_t, .int p1, .int p2] (wd_X2_spread G a_t a_t_borrows a_t_lends a_t_reach a_t_room a_t_via a_t_worth a_t_wanted t_going t_chosen t_borrows t_lends t_reach t_room t_via t_worth) none (wd_X2_spread G a_t a_t_borrows a_t_lends a_t_reach a_t_room a_t_via a_t_worth a_t_wanted t_going t_chosen t_borrows t_lends r.1 t_room r.2 t_worth) := by
  refine jM_of (own := RX2) (by decide) rfl rfl rfl (Nat.le_of_ble_eq_true rfl) (lv0 := [(0, .ref a_t), (1, .int p1), (2, .int p2)]) rfl (fun X C hE => ?_)
  unfold dn_X2_spread at hd
  refine j_iconst (pc := 0) (v := 0) C dX2_spread_0 jk_I0 ?_
  refine j_istore_n (pc := 1) (lv2 := [(0, .ref a_t), (1, .int p1), (2, .int p2), (3, .int 0)]) C dX2_spread_1 rfl (by decide) [1, 2, 3, 0] rfl ?_
  refine j_sub (lv2 := [(0, .ref a_t), (1, .int p1), (2, .int p2), (3, .int 0)]) [0, 1, 2, 3] rfl ?_
  obtain ⟨n, hn⟩ := lpC_ex hd
  exact (la_X2_spread l G a_t a_t_borrows a_t_lends a_t_reach a_t_room a_t_via a_t_worth a_t_wanted t_going t_chosen t_borrows t_lends t_room t_worth p1 p2 X C r hE n).1 0 t_reach t_via hn
/-! ##### LendTown$Flow.bestEnd(II)I -/
abbrev rm_X2_bestEnd : Room := { frames := 0, cells := 0, slots := 0, locals := 0 }
theorem jy_X2_bestEnd : jY yX2_bestEnd wsX2_bestEnd rm_X2_bestEnd cX2_bestEnd 7 (some .int) 2 := ⟨⟨_, rfl⟩, ⟨rfl, rfl⟩, by decide, by decide, by decide +kernel⟩
theorem in_X2_bestEnd_X2 : ∀ w ∈ u_ws RX2 TX2 9, w ∈ wsX2_bestEnd := fun w h => List.mem_cons_of_mem _ (List.mem_append_right _ (h))
theorem fl_X2_bestEnd_24 : Cond.fieldLink RX2 24 "LendTown$Flow" "room" "[I" ∈ wsX2_bestEnd := List.mem_of_getElem? (i := 1) rfl
theorem fl_X2_bestEnd_27 : Cond.fieldLink RX2 27 "LendTown$Flow" "reach" "[I" ∈ wsX2_bestEnd := List.mem_of_getElem? (i := 2) rfl
def wd_X2_bestEnd (G : jG) (a_t : Nat) (a_t_reach : Nat) (a_t_room : Nat) (a_t_lends : Nat) (a_t_borrows : Nat) (a_t_worth : Nat) (a_t_wanted : Nat) (a_t_via : Nat) (t_going : Int32) (t_chosen : Int32) (t_reach : Nat → Int32) (t_room : Nat → Int32) : va_W := [(a_t, .inr (2, [.ref a_t_lends, .ref a_t_borrows, .ref a_t_worth, .ref a_t_wanted, .ref a_t_room, .ref a_t_reach, .ref a_t_via, .int t_going, .int t_chosen])), (a_t_reach, .inl (G.2.2.1, 10, .inl t_reach)), (a_t_room, .inl (G.2.2.1, 10, .inl t_room))]
set_option maxHeartbeats 8000000 in
set_option maxRecDepth 100000 in
theorem lb_X2_bestEnd_0 (l : Launch) (G : jG) (a_t : Nat) (a_t_reach : Nat) (a_t_room : Nat) (a_t_lends : Nat) (a_t_borrows : Nat) (a_t_worth : Nat) (a_t_wanted : Nat) (a_t_via : Nat) (t_going : Int32) (t_chosen : Int32) (t_reach : Nat → Int32) (t_room : Nat → Int32) (p1 : Int32) (p2 : Int32) (X : jX) (C : jC X l G 7 rm_X2_bestEnd cX2_bestEnd RX2 wsX2_bestEnd) (r : Int32) (hE : jE X (some .int) (some (.int r)) (wd_X2_bestEnd G a_t a_t_reach a_t_room a_t_lends a_t_borrows a_t_worth a_t_wanted a_t_via t_going t_chosen t_reach t_room)) (n : Nat) (IH1 : ∀ (v3 : Int32) (v4 : Int32) (v5 : Int32) (k0 : Int32), lpN (st_X2_bestEnd t_reach t_room p1 p2) n (.inr ((v3, v4, v5, k0))) = some r → J X 0 0 (wd_X2_bestEnd G a_t a_t_reach a_t_room a_t_lends a_t_borrows a_t_worth a_t_wanted a_t_via t_going t_chosen t_reach t_room) [(0, .ref a_t), (1, .int p1), (2, .int p2), (3, .int v3), (4, .int v4), (5, .int v5)] 28 [.int k0]) (v3 : Int32) (v4 : Int32) (v5 : Int32) (hd : lpR (st_X2_bestEnd t_reach t_room p1 p2) n (bd_X2_bestEnd_0 t_reach t_room p1 p2 v3 v4 v5) = some r) : J X 0 0 (wd_X2_bestEnd G a_t a_t_reach a_t_room a_t_lends a_t_borrows a_t_worth a_t_wanted a_t_via t_going t_chosen t_reach t_room) [(0, .ref a_t), (1, .int p1), (2, .int p2), (3, .int v3), (4, .int v4), (5, .int v5)] 8 [] := by
  unfold bd_X2_bestEnd_0 at hd
  refine j_iload (pc := 8) C dX2_bestEnd_8 5 rfl ?_
  refine j_iload_n (pc := 10) C dX2_bestEnd_10 rfl 1 rfl ?_
  refine j_icmp_ge (pc := 11) (tgt := 75) C dX2_bestEnd_11 (by decide) (fun c1 => ?_) (fun c1 => ?_)
  · have hd := lp_pos c1 hd
    refine j_iload_n (pc := 75) C dX2_bestEnd_75 rfl 3 rfl ?_
    obtain rfl := Option.some.inj hd
    exact j_iret (pc := 76) C hE dX2_bestEnd_76 rfl rfl
  · have hd := lp_neg c1 hd
    refine j_iload_n (pc := 14) C dX2_bestEnd_14 rfl 2 rfl ?_
    refine j_iload (pc := 15) C dX2_bestEnd_15 5 rfl ?_
    refine j_ishr (pc := 17) C dX2_bestEnd_17 ?_
    refine j_iconst (pc := 18) (v := 1) C dX2_bestEnd_18 jk_I1 ?_
    refine j_iand (pc := 19) C dX2_bestEnd_19 ?_
    refine j_if_ne (pc := 20) (tgt := 27) C dX2_bestEnd_20 (by decide) (fun c2 => ?_) (fun c2 => ?_)
    · have hd := lp_neg c2 hd
      refine j_iconst (pc := 27) (v := 0) C dX2_bestEnd_27 jk_I0 ?_
      refine j_sub (lv2 := [(0, .ref a_t), (1, .int p1), (2, .int p2), (3, .int v3), (4, .int v4), (5, .int v5)]) [0, 1, 2, 3, 4, 5] rfl ?_
      exact IH1 v3 v4 v5 0 hd
    · have hd := lp_pos c2 hd
      refine j_iconst (pc := 23) (v := 1) C dX2_bestEnd_23 jk_I1 ?_
      refine j_goto (pc := 24) (tgt := 28) C dX2_bestEnd_24 (by decide) ?_
      refine j_sub (lv2 := [(0, .ref a_t), (1, .int p1), (2, .int p2), (3, .int v3), (4, .int v4), (5, .int v5)]) [0, 1, 2, 3, 4, 5] rfl ?_
      exact IH1 v3 v4 v5 1 hd
set_option maxHeartbeats 8000000 in
set_option maxRecDepth 100000 in
theorem lb_X2_bestEnd_1 (l : Launch) (G : jG) (a_t : Nat) (a_t_reach : Nat) (a_t_room : Nat) (a_t_lends : Nat) (a_t_borrows : Nat) (a_t_worth : Nat) (a_t_wanted : Nat) (a_t_via : Nat) (t_going : Int32) (t_chosen : Int32) (t_reach : Nat → Int32) (t_room : Nat → Int32) (p1 : Int32) (p2 : Int32) (X : jX) (C : jC X l G 7 rm_X2_bestEnd cX2_bestEnd RX2 wsX2_bestEnd) (r : Int32) (hE : jE X (some .int) (some (.int r)) (wd_X2_bestEnd G a_t a_t_reach a_t_room a_t_lends a_t_borrows a_t_worth a_t_wanted a_t_via t_going t_chosen t_reach t_room)) (n : Nat) (IH0 : ∀ (v3 : Int32) (v4 : Int32) (v5 : Int32), lpN (st_X2_bestEnd t_reach t_room p1 p2) n (.inl (v3, v4, v5)) = some r → J X 0 0 (wd_X2_bestEnd G a_t a_t_reach a_t_room a_t_lends a_t_borrows a_t_worth a_t_wanted a_t_via t_going t_chosen t_reach t_room) [(0, .ref a_t), (1, .int p1), (2, .int p2), (3, .int v3), (4, .int v4), (5, .int v5)] 8 []) (v3 : Int32) (v4 : Int32) (v5 : Int32) (k0 : Int32) (hd : lpR (st_X2_bestEnd t_reach t_room p1 p2) n (bd_X2_bestEnd_1 t_reach t_room p1 p2 v3 v4 v5 k0) = some r) : J X 0 0 (wd_X2_bestEnd G a_t a_t_reach a_t_room a_t_lends a_t_borrows a_t_worth a_t_wanted a_t_via t_going t_chosen t_reach t_room) [(0, .ref a_t), (1, .int p1), (2, .int p2), (3, .int v3), (4, .int v4), (5, .int v5)] 28 [.int k0] := by
  unfold bd_X2_bestEnd_1 at hd
  refine j_istore (pc := 28) (lv2 := [(0, .ref a_t), (1, .int p1), (2, .int p2), (3, .int v3), (4, .int v4), (5, .int v5), (6, .int k0)]) C dX2_bestEnd_28 (by decide) [1, 2, 3, 4, 5, 6, 0] rfl ?_
  refine j_iload (pc := 30) C dX2_bestEnd_30 6 rfl ?_
  refine j_if_eq (pc := 32) (tgt := 69) C dX2_bestEnd_32 (by decide) (fun c3 => ?_) (fun c3 => ?_)
  · have hd := lp_pos c3 hd
    refine j_iinc (pc := 69) (lv2 := [(0, .ref a_t), (1, .int p1), (2, .int p2), (3, .int v3), (4, .int v4), (5, .int (v5 + 1)), (6, .int k0)]) C dX2_bestEnd_69 jk_I1 (by decide) 5 rfl [1, 2, 3, 4, 5, 0, 6] rfl ?_
    refine j_goto (pc := 72) (tgt := 8) C dX2_bestEnd_72 (by decide) ?_
    refine j_sub (lv2 := [(0, .ref a_t), (1, .int p1), (2, .int p2), (3, .int v3), (4, .int v4), (5, .int (v5 + 1))]) [0, 1, 2, 3, 4, 5] rfl ?_
    exact IH0 v3 v4 (v5 + 1) hd
  · have hd := lp_neg c3 hd
    refine j_aload_n (pc := 35) C dX2_bestEnd_35 rfl 0 rfl ?_
    refine j_get (pc := 36) (q0 := 0) (ci := 2) (kf := 4) C dX2_bestEnd_36 in_X2_bestEnd_X2 rfl (by decide) fl_X2_bestEnd_24 rfl rfl ?_
    refine j_iload (pc := 39) C dX2_bestEnd_39 5 rfl ?_
    obtain ⟨h4, hd⟩ := lp_chk hd
    refine j_iald (pc := 41) (q0 := 2) C dX2_bestEnd_41 rfl h4 ?_
    refine j_if_le (pc := 42) (tgt := 69) C dX2_bestEnd_42 (by decide) (fun c5 => ?_) (fun c5 => ?_)
    · have hd := lp_pos c5 hd
      refine j_iinc (pc := 69) (lv2 := [(0, .ref a_t), (1, .int p1), (2, .int p2), (3, .int v3), (4, .int v4), (5, .int (v5 + 1)), (6, .int k0)]) C dX2_bestEnd_69 jk_I1 (by decide) 5 rfl [1, 2, 3, 4, 5, 0, 6] rfl ?_
      refine j_goto (pc := 72) (tgt := 8) C dX2_bestEnd_72 (by decide) ?_
      refine j_sub (lv2 := [(0, .ref a_t), (1, .int p1), (2, .int p2), (3, .int v3), (4, .int v4), (5, .int (v5 + 1))]) [0, 1, 2, 3, 4, 5] rfl ?_
      exact IH0 v3 v4 (v5 + 1) hd
    · have hd := lp_neg c5 hd
      refine j_aload_n (pc := 45) C dX2_bestEnd_45 rfl 0 rfl ?_
      refine j_get (pc := 46) (q0 := 0) (ci := 2) (kf := 5) C dX2_bestEnd_46 in_X2_bestEnd_X2 rfl (by decide) fl_X2_bestEnd_27 rfl rfl ?_
      refine j_iload (pc := 49) C dX2_bestEnd_49 5 rfl ?_
      obtain ⟨h6, hd⟩ := lp_chk hd
      refine j_iald (pc := 51) (q0 := 1) C dX2_bestEnd_51 rfl h6 ?_
      refine j_iload (pc := 52) C dX2_bestEnd_52 4 rfl ?_
      refine j_icmp_le (pc := 54) (tgt := 69) C dX2_bestEnd_54 (by decide) (fun c7 => ?_) (fun c7 => ?_)
      · have hd := lp_pos c7 hd
        refine j_iinc (pc := 69) (lv2 := [(0, .ref a_t), (1, .int p1), (2, .int p2), (3, .int v3), (4, .int v4), (5, .int (v5 + 1)), (6, .int k0)]) C dX2_bestEnd_69 jk_I1 (by decide) 5 rfl [1, 2, 3, 4, 5, 0, 6] rfl ?_
        refine j_goto (pc := 72) (tgt := 8) C dX2_bestEnd_72 (by decide) ?_
        refine j_sub (lv2 := [(0, .ref a_t), (1, .int p1), (2, .int p2), (3, .int v3), (4, .int v4), (5, .int (v5 + 1))]) [0, 1, 2, 3, 4, 5] rfl ?_
        exact IH0 v3 v4 (v5 + 1) hd
      · have hd := lp_neg c7 hd
        refine j_aload_n (pc := 57) C dX2_bestEnd_57 rfl 0 rfl ?_
        refine j_get (pc := 58) (q0 := 0) (ci := 2) (kf := 5) C dX2_bestEnd_58 in_X2_bestEnd_X2 rfl (by decide) fl_X2_bestEnd_27 rfl rfl ?_
        refine j_iload (pc := 61) C dX2_bestEnd_61 5 rfl ?_
        obtain ⟨h8, hd⟩ := lp_chk hd
        refine j_iald (pc := 63) (q0 := 1) C dX2_bestEnd_63 rfl h8 ?_
        refine j_istore (pc := 64) (lv2 := [(0, .ref a_t), (1, .int p1), (2, .int p2), (4, .int (t_reach (v5).toNatClampNeg)), (5, .int v5)]) C dX2_bestEnd_64 (by decide) [1, 2, 3, 0, 5] rfl ?_
        refine j_iload (pc := 66) C dX2_bestEnd_66 4 rfl ?_
        refine j_istore_n (pc := 68) (lv2 := [(0, .ref a_t), (1, .int p1), (2, .int p2), (3, .int v5), (4, .int (t_reach (v5).toNatClampNeg)), (5, .int v5)]) C dX2_bestEnd_68 rfl (by decide) [1, 2, 3, 0, 4, 5] rfl ?_
        refine j_iinc (pc := 69) (lv2 := [(0, .ref a_t), (1, .int p1), (2, .int p2), (3, .int v5), (4, .int (t_reach (v5).toNatClampNeg)), (5, .int (v5 + 1))]) C dX2_bestEnd_69 jk_I1 (by decide) 5 rfl [1, 2, 3, 4, 5, 0] rfl ?_
        refine j_goto (pc := 72) (tgt := 8) C dX2_bestEnd_72 (by decide) ?_
        refine j_sub (lv2 := [(0, .ref a_t), (1, .int p1), (2, .int p2), (3, .int v5), (4, .int (t_reach (v5).toNatClampNeg)), (5, .int (v5 + 1))]) [0, 1, 2, 3, 4, 5] rfl ?_
        exact IH0 v5 (t_reach (v5).toNatClampNeg) (v5 + 1) hd
set_option maxHeartbeats 8000000 in
set_option maxRecDepth 100000 in
theorem la_X2_bestEnd (l : Launch) (G : jG) (a_t : Nat) (a_t_reach : Nat) (a_t_room : Nat) (a_t_lends : Nat) (a_t_borrows : Nat) (a_t_worth : Nat) (a_t_wanted : Nat) (a_t_via : Nat) (t_going : Int32) (t_chosen : Int32) (t_reach : Nat → Int32) (t_room : Nat → Int32) (p1 : Int32) (p2 : Int32) (X : jX) (C : jC X l G 7 rm_X2_bestEnd cX2_bestEnd RX2 wsX2_bestEnd) (r : Int32) (hE : jE X (some .int) (some (.int r)) (wd_X2_bestEnd G a_t a_t_reach a_t_room a_t_lends a_t_borrows a_t_worth a_t_wanted a_t_via t_going t_chosen t_reach t_room)) (n : Nat) : (∀ (v3 : Int32) (v4 : Int32) (v5 : Int32), lpN (st_X2_bestEnd t_reach t_room p1 p2) n (.inl (v3, v4, v5)) = some r → J X 0 0 (wd_X2_bestEnd G a_t a_t_reach a_t_room a_t_lends a_t_borrows a_t_worth a_t_wanted a_t_via t_going t_chosen t_reach t_room) [(0, .ref a_t), (1, .int p1), (2, .int p2), (3, .int v3), (4, .int v4), (5, .int v5)] 8 []) ∧ (∀ (v3 : Int32) (v4 : Int32) (v5 : Int32) (k0 : Int32), lpN (st_X2_bestEnd t_reach t_room p1 p2) n (.inr ((v3, v4, v5, k0))) = some r → J X 0 0 (wd_X2_bestEnd G a_t a_t_reach a_t_room a_t_lends a_t_borrows a_t_worth a_t_wanted a_t_via t_going t_chosen t_reach t_room) [(0, .ref a_t), (1, .int p1), (2, .int p2), (3, .int v3), (4, .int v4), (5, .int v5)] 28 [.int k0]) := by
  induction n with
  | zero => exact ⟨(fun v3 v4 v5 h => by cases h), (fun v3 v4 v5 k0 h => by cases h)⟩
  | succ n ih => exact ⟨(fun v3 v4 v5 h => lb_X2_bestEnd_0 l G a_t a_t_reach a_t_room a_t_lends a_t_borrows a_t_worth a_t_wanted a_t_via t_going t_chosen t_reach t_room p1 p2 X C r hE n (ih.2) v3 v4 v5 (by rw [lpN_succ] at h; exact h)), (fun v3 v4 v5 k0 h => lb_X2_bestEnd_1 l G a_t a_t_reach a_t_room a_t_lends a_t_borrows a_t_worth a_t_wanted a_t_via t_going t_chosen t_reach t_room p1 p2 X C r hE n (ih.1) v3 v4 v5 k0 (by rw [lpN_succ] at h; exact h))⟩
set_option maxHeartbeats 8000000 in
set_option maxRecDepth 100000 in
theorem ct_X2_bestEnd (l : Launch) (G : jG) (a_t : Nat) (a_t_reach : Nat) (a_t_room : Nat) (a_t_lends : Nat) (a_t_borrows : Nat) (a_t_worth : Nat) (a_t_wanted : Nat) (a_t_via : Nat) (t_going : Int32) (t_chosen : Int32) (t_reach : Nat → Int32) (t_room : Nat → Int32) (p1 : Int32) (p2 : Int32) (r : Int32) (hd : dn_X2_bestEnd t_reach t_room p1 p2 = some r) : jM l G yX2_bestEnd wsX2_bestEnd rm_X2_bestEnd [.ref a_t, .int p1, .int p2] (wd_X2_bestEnd G a_t a_t_reach a_t_room a_t_lends a_t_borrows a_t_worth a_t_wanted a_t_via t_going t_chosen t_reach t_room) (some (.int r)) (wd_X2_bestEnd G a_t a_t_reach a_t_room a_t_lends a_t_borrows a_t_worth a_t_wanted a_t_via t_going t_chosen t_reach t_room) := by
  refine jM_of (own := RX2) (by decide) rfl rfl rfl (Nat.le_of_ble_eq_true rfl) (lv0 := [(0, .ref a_t), (1, .int p1), (2, .int p2)]) rfl (fun X C hE => ?_)
  unfold dn_X2_bestEnd at hd
  refine j_iconst (pc := 0) (v := (-1)) C dX2_bestEnd_0 jk_Im1 ?_
  refine j_istore_n (pc := 1) (lv2 := [(0, .ref a_t), (1, .int p1), (2, .int p2), (3, .int (-1))]) C dX2_bestEnd_1 rfl (by decide) [1, 2, 3, 0] rfl ?_
  refine j_iconst (pc := 2) (v := 0) C dX2_bestEnd_2 jk_I0 ?_
  refine j_istore (pc := 3) (lv2 := [(0, .ref a_t), (1, .int p1), (2, .int p2), (3, .int (-1)), (4, .int 0)]) C dX2_bestEnd_3 (by decide) [1, 2, 3, 4, 0] rfl ?_
  refine j_iconst (pc := 5) (v := 0) C dX2_bestEnd_5 jk_I0 ?_
  refine j_istore (pc := 6) (lv2 := [(0, .ref a_t), (1, .int p1), (2, .int p2), (3, .int (-1)), (4, .int 0), (5, .int 0)]) C dX2_bestEnd_6 (by decide) [1, 2, 3, 4, 5, 0] rfl ?_
  refine j_sub (lv2 := [(0, .ref a_t), (1, .int p1), (2, .int p2), (3, .int (-1)), (4, .int 0), (5, .int 0)]) [0, 1, 2, 3, 4, 5] rfl ?_
  obtain ⟨n, hn⟩ := lpC_ex hd
  exact (la_X2_bestEnd l G a_t a_t_reach a_t_room a_t_lends a_t_borrows a_t_worth a_t_wanted a_t_via t_going t_chosen t_reach t_room p1 p2 X C r hE n).1 (-1) 0 0 hn
/-! ##### LendTown$Flow.turnPath(I)V -/
abbrev rm_X2_turnPath : Room := { frames := 0, cells := 0, slots := 0, locals := 0 }
theorem jy_X2_turnPath : jY yX2_turnPath wsX2_turnPath rm_X2_turnPath cX2_turnPath 5 none 1 := ⟨⟨_, rfl⟩, ⟨rfl, rfl⟩, by decide, by decide, by decide +kernel⟩
theorem in_X2_turnPath_X2 : ∀ w ∈ u_ws RX2 TX2 9, w ∈ wsX2_turnPath := fun w h => List.mem_cons_of_mem _ (List.mem_append_right _ (h))
theorem fl_X2_turnPath_30 : Cond.fieldLink RX2 30 "LendTown$Flow" "via" "[I" ∈ wsX2_turnPath := List.mem_of_getElem? (i := 1) rfl
theorem fl_X2_turnPath_37 : Cond.fieldLink RX2 37 "LendTown$Flow" "chosen" "I" ∈ wsX2_turnPath := List.mem_of_getElem? (i := 2) rfl
theorem fl_X2_turnPath_9 : Cond.fieldLink RX2 9 "LendTown$Flow" "lends" "[I" ∈ wsX2_turnPath := List.mem_of_getElem? (i := 3) rfl
theorem fl_X2_turnPath_15 : Cond.fieldLink RX2 15 "LendTown$Flow" "borrows" "[I" ∈ wsX2_turnPath := List.mem_of_getElem? (i := 4) rfl
theorem fl_X2_turnPath_24 : Cond.fieldLink RX2 24 "LendTown$Flow" "room" "[I" ∈ wsX2_turnPath := List.mem_of_getElem? (i := 5) rfl
def wd_X2_turnPath (G : jG) (a_t : Nat) (a_t_borrows : Nat) (a_t_lends : Nat) (a_t_room : Nat) (a_t_via : Nat) (a_t_worth : Nat) (a_t_wanted : Nat) (a_t_reach : Nat) (t_going : Int32) (t_chosen : Int32) (t_borrows : Nat → Int32) (t_lends : Nat → Int32) (t_room : Nat → Int32) (t_via : Nat → Int32) : va_W := [(a_t, .inr (2, [.ref a_t_lends, .ref a_t_borrows, .ref a_t_worth, .ref a_t_wanted, .ref a_t_room, .ref a_t_reach, .ref a_t_via, .int t_going, .int t_chosen])), (a_t_borrows, .inl (G.2.2.1, 30, .inl t_borrows)), (a_t_lends, .inl (G.2.2.1, 30, .inl t_lends)), (a_t_room, .inl (G.2.2.1, 10, .inl t_room)), (a_t_via, .inl (G.2.2.1, 10, .inl t_via))]
set_option maxHeartbeats 8000000 in
set_option maxRecDepth 100000 in
theorem lb_X2_turnPath_0 (l : Launch) (G : jG) (a_t : Nat) (a_t_borrows : Nat) (a_t_lends : Nat) (a_t_room : Nat) (a_t_via : Nat) (a_t_worth : Nat) (a_t_wanted : Nat) (a_t_reach : Nat) (t_going : Int32) (t_borrows : Nat → Int32) (t_lends : Nat → Int32) (t_via : Nat → Int32) (p1 : Int32) (X : jX) (C : jC X l G 5 rm_X2_turnPath cX2_turnPath RX2 wsX2_turnPath) (r : Int32 × (Nat → Int32)) (hE : jE X none none (wd_X2_turnPath G a_t a_t_borrows a_t_lends a_t_room a_t_via a_t_worth a_t_wanted a_t_reach t_going r.1 t_borrows t_lends r.2 t_via)) (n : Nat) (IH0 : ∀ (v2 : Int32) (v3 : Int32) (t_chosen : Int32) (t_room : Nat → Int32), lpN (st_X2_turnPath t_borrows t_lends t_via p1) n (.inl (v2, v3, t_chosen, t_room)) = some r → J X 0 0 (wd_X2_turnPath G a_t a_t_borrows a_t_lends a_t_room a_t_via a_t_worth a_t_wanted a_t_reach t_going t_chosen t_borrows t_lends t_room t_via) [(0, .ref a_t), (1, .int p1), (2, .int v2), (3, .int v3)] 4 []) (IH1 : ∀ (v2 : Int32) (t_chosen : Int32) (t_room : Nat → Int32), lpN (st_X2_turnPath t_borrows t_lends t_via p1) n (.inr ((v2, t_chosen, t_room))) = some r → J X 0 0 (wd_X2_turnPath G a_t a_t_borrows a_t_lends a_t_room a_t_via a_t_worth a_t_wanted a_t_reach t_going t_chosen t_borrows t_lends t_room t_via) [(0, .ref a_t), (1, .int p1), (2, .int v2)] 76 []) (v2 : Int32) (v3 : Int32) (t_chosen : Int32) (t_room : Nat → Int32) (hd : lpR (st_X2_turnPath t_borrows t_lends t_via p1) n (bd_X2_turnPath_0 t_borrows t_lends t_via p1 v2 v3 t_chosen t_room) = some r) : J X 0 0 (wd_X2_turnPath G a_t a_t_borrows a_t_lends a_t_room a_t_via a_t_worth a_t_wanted a_t_reach t_going t_chosen t_borrows t_lends t_room t_via) [(0, .ref a_t), (1, .int p1), (2, .int v2), (3, .int v3)] 4 [] := by
  unfold bd_X2_turnPath_0 at hd
  refine j_iload_n (pc := 4) C dX2_turnPath_4 rfl 3 rfl ?_
  refine j_bipush (pc := 5) (v := 10) C dX2_turnPath_5 jk_B10 ?_
  refine j_icmp_gt (pc := 7) (tgt := 76) C dX2_turnPath_7 (by decide) (fun c1 => ?_) (fun c1 => ?_)
  · have hd := lp_pos c1 hd
    refine j_sub (lv2 := [(0, .ref a_t), (1, .int p1), (2, .int v2)]) [0, 1, 2] rfl ?_
    exact IH1 v2 t_chosen t_room hd
  · have hd := lp_neg c1 hd
    refine j_aload_n (pc := 10) C dX2_turnPath_10 rfl 0 rfl ?_
    refine j_get (pc := 11) (q0 := 0) (ci := 2) (kf := 6) C dX2_turnPath_11 in_X2_turnPath_X2 rfl (by decide) fl_X2_turnPath_30 rfl rfl ?_
    refine j_iload_n (pc := 14) C dX2_turnPath_14 rfl 2 rfl ?_
    obtain ⟨h2, hd⟩ := lp_chk hd
    refine j_iald (pc := 15) (q0 := 4) C dX2_turnPath_15 rfl h2 ?_
    refine j_iconst (pc := 16) (v := (-1)) C dX2_turnPath_16 jk_Im1 ?_
    refine j_icmp_eq (pc := 17) (tgt := 76) C dX2_turnPath_17 (by decide) (fun c3 => ?_) (fun c3 => ?_)
    · have hd := lp_pos c3 hd
      refine j_sub (lv2 := [(0, .ref a_t), (1, .int p1), (2, .int v2)]) [0, 1, 2] rfl ?_
      exact IH1 v2 t_chosen t_room hd
    · have hd := lp_neg c3 hd
      refine j_aload_n (pc := 20) C dX2_turnPath_20 rfl 0 rfl ?_
      refine j_get (pc := 21) (q0 := 0) (ci := 2) (kf := 6) C dX2_turnPath_21 in_X2_turnPath_X2 rfl (by decide) fl_X2_turnPath_30 rfl rfl ?_
      refine j_iload_n (pc := 24) C dX2_turnPath_24 rfl 2 rfl ?_
      obtain ⟨h4, hd⟩ := lp_chk hd
      refine j_iald (pc := 25) (q0 := 4) C dX2_turnPath_25 rfl h4 ?_
      refine j_istore (pc := 26) (lv2 := [(0, .ref a_t), (1, .int p1), (2, .int v2), (3, .int v3), (4, .int (t_via (v2).toNatClampNeg))]) C dX2_turnPath_26 (by decide) [1, 2, 3, 4, 0] rfl ?_
      refine j_aload_n (pc := 28) C dX2_turnPath_28 rfl 0 rfl ?_
      refine j_dup (pc := 29) C dX2_turnPath_29 rfl ?_
      refine j_get (pc := 30) (q0 := 0) (ci := 2) (kf := 8) C dX2_turnPath_30 in_X2_turnPath_X2 rfl (by decide) fl_X2_turnPath_37 rfl rfl ?_
      refine j_iconst (pc := 33) (v := 1) C dX2_turnPath_33 jk_I1 ?_
      refine j_iload (pc := 34) C dX2_turnPath_34 4 rfl ?_
      refine j_ishl (pc := 36) C dX2_turnPath_36 ?_
      refine j_ixor (pc := 37) C dX2_turnPath_37 ?_
      refine j_put (pc := 38) (q0 := 0) (ci := 2) (kf := 8) (ws2 := wd_X2_turnPath G a_t a_t_borrows a_t_lends a_t_room a_t_via a_t_worth a_t_wanted a_t_reach t_going (t_chosen ^^^ ((1 : Int32) <<< ((t_via (v2).toNatClampNeg) &&& 31))) t_borrows t_lends t_room t_via) C dX2_turnPath_38 in_X2_turnPath_X2 tyX2 tyX2_ok nmX2 rfl (by decide) fl_X2_turnPath_37 rfl rfl rfl rfl (Nat.le_of_ble_eq_true rfl) rfl ?_
      refine j_aload_n (pc := 41) C dX2_turnPath_41 rfl 0 rfl ?_
      refine j_get (pc := 42) (q0 := 0) (ci := 2) (kf := 0) C dX2_turnPath_42 in_X2_turnPath_X2 rfl (by decide) fl_X2_turnPath_9 rfl rfl ?_
      refine j_iload (pc := 45) C dX2_turnPath_45 4 rfl ?_
      obtain ⟨h5, hd⟩ := lp_chk hd
      refine j_iald (pc := 47) (q0 := 2) C dX2_turnPath_47 rfl h5 ?_
      refine j_iload_n (pc := 48) C dX2_turnPath_48 rfl 2 rfl ?_
      refine j_icmp_ne (pc := 49) (tgt := 62) C dX2_turnPath_49 (by decide) (fun c6 => ?_) (fun c6 => ?_)
      · have hd := lp_neg c6 hd
        refine j_aload_n (pc := 62) C dX2_turnPath_62 rfl 0 rfl ?_
        refine j_get (pc := 63) (q0 := 0) (ci := 2) (kf := 0) C dX2_turnPath_63 in_X2_turnPath_X2 rfl (by decide) fl_X2_turnPath_9 rfl rfl ?_
        refine j_iload (pc := 66) C dX2_turnPath_66 4 rfl ?_
        obtain ⟨h7, hd⟩ := lp_chk hd
        refine j_iald (pc := 68) (q0 := 2) C dX2_turnPath_68 rfl h7 ?_
        refine j_istore_n (pc := 69) (lv2 := [(0, .ref a_t), (1, .int p1), (2, .int (t_lends ((t_via (v2).toNatClampNeg)).toNatClampNeg)), (3, .int v3)]) C dX2_turnPath_69 rfl (by decide) [1, 2, 0, 3] rfl ?_
        refine j_iinc (pc := 70) (lv2 := [(0, .ref a_t), (1, .int p1), (2, .int (t_lends ((t_via (v2).toNatClampNeg)).toNatClampNeg)), (3, .int (v3 + 1))]) C dX2_turnPath_70 jk_I1 (by decide) 3 rfl [1, 2, 3, 0] rfl ?_
        refine j_goto (pc := 73) (tgt := 4) C dX2_turnPath_73 (by decide) ?_
        refine j_sub (lv2 := [(0, .ref a_t), (1, .int p1), (2, .int (t_lends ((t_via (v2).toNatClampNeg)).toNatClampNeg)), (3, .int (v3 + 1))]) [0, 1, 2, 3] rfl ?_
        exact IH0 (t_lends ((t_via (v2).toNatClampNeg)).toNatClampNeg) (v3 + 1) (t_chosen ^^^ ((1 : Int32) <<< ((t_via (v2).toNatClampNeg) &&& 31))) t_room hd
      · have hd := lp_pos c6 hd
        refine j_aload_n (pc := 52) C dX2_turnPath_52 rfl 0 rfl ?_
        refine j_get (pc := 53) (q0 := 0) (ci := 2) (kf := 1) C dX2_turnPath_53 in_X2_turnPath_X2 rfl (by decide) fl_X2_turnPath_15 rfl rfl ?_
        refine j_iload (pc := 56) C dX2_turnPath_56 4 rfl ?_
        obtain ⟨h8, hd⟩ := lp_chk hd
        refine j_iald (pc := 58) (q0 := 1) C dX2_turnPath_58 rfl h8 ?_
        refine j_goto (pc := 59) (tgt := 69) C dX2_turnPath_59 (by decide) ?_
        refine j_istore_n (pc := 69) (lv2 := [(0, .ref a_t), (1, .int p1), (2, .int (t_borrows ((t_via (v2).toNatClampNeg)).toNatClampNeg)), (3, .int v3)]) C dX2_turnPath_69 rfl (by decide) [1, 2, 0, 3] rfl ?_
        refine j_iinc (pc := 70) (lv2 := [(0, .ref a_t), (1, .int p1), (2, .int (t_borrows ((t_via (v2).toNatClampNeg)).toNatClampNeg)), (3, .int (v3 + 1))]) C dX2_turnPath_70 jk_I1 (by decide) 3 rfl [1, 2, 3, 0] rfl ?_
        refine j_goto (pc := 73) (tgt := 4) C dX2_turnPath_73 (by decide) ?_
        refine j_sub (lv2 := [(0, .ref a_t), (1, .int p1), (2, .int (t_borrows ((t_via (v2).toNatClampNeg)).toNatClampNeg)), (3, .int (v3 + 1))]) [0, 1, 2, 3] rfl ?_
        exact IH0 (t_borrows ((t_via (v2).toNatClampNeg)).toNatClampNeg) (v3 + 1) (t_chosen ^^^ ((1 : Int32) <<< ((t_via (v2).toNatClampNeg) &&& 31))) t_room hd
set_option maxHeartbeats 8000000 in
set_option maxRecDepth 100000 in
theorem lb_X2_turnPath_1 (l : Launch) (G : jG) (a_t : Nat) (a_t_borrows : Nat) (a_t_lends : Nat) (a_t_room : Nat) (a_t_via : Nat) (a_t_worth : Nat) (a_t_wanted : Nat) (a_t_reach : Nat) (t_going : Int32) (t_borrows : Nat → Int32) (t_lends : Nat → Int32) (t_via : Nat → Int32) (p1 : Int32) (X : jX) (C : jC X l G 5 rm_X2_turnPath cX2_turnPath RX2 wsX2_turnPath) (r : Int32 × (Nat → Int32)) (hE : jE X none none (wd_X2_turnPath G a_t a_t_borrows a_t_lends a_t_room a_t_via a_t_worth a_t_wanted a_t_reach t_going r.1 t_borrows t_lends r.2 t_via)) (n : Nat)  (v2 : Int32) (t_chosen : Int32) (t_room : Nat → Int32) (hd : lpR (st_X2_turnPath t_borrows t_lends t_via p1) n (bd_X2_turnPath_1 t_borrows t_lends t_via p1 v2 t_chosen t_room) = some r) : J X 0 0 (wd_X2_turnPath G a_t a_t_borrows a_t_lends a_t_room a_t_via a_t_worth a_t_wanted a_t_reach t_going t_chosen t_borrows t_lends t_room t_via) [(0, .ref a_t), (1, .int p1), (2, .int v2)] 76 [] := by
  unfold bd_X2_turnPath_1 at hd
  refine j_aload_n (pc := 76) C dX2_turnPath_76 rfl 0 rfl ?_
  refine j_get (pc := 77) (q0 := 0) (ci := 2) (kf := 4) C dX2_turnPath_77 in_X2_turnPath_X2 rfl (by decide) fl_X2_turnPath_24 rfl rfl ?_
  refine j_iload_n (pc := 80) C dX2_turnPath_80 rfl 2 rfl ?_
  refine j_dup2 (pc := 81) C dX2_turnPath_81 rfl rfl ?_
  obtain ⟨h9, hd⟩ := lp_chk hd
  refine j_iald (pc := 82) (q0 := 3) C dX2_turnPath_82 rfl h9 ?_
  refine j_iconst (pc := 83) (v := 1) C dX2_turnPath_83 jk_I1 ?_
  refine j_isub (pc := 84) C dX2_turnPath_84 ?_
  obtain ⟨h10, hd⟩ := lp_chk hd
  refine j_iast (pc := 85) (q0 := 3) (ws2 := wd_X2_turnPath G a_t a_t_borrows a_t_lends a_t_room a_t_via a_t_worth a_t_wanted a_t_reach t_going t_chosen t_borrows t_lends (upd t_room (v2).toNatClampNeg ((t_room (v2).toNatClampNeg) - 1)) t_via) C dX2_turnPath_85 rfl h10 rfl ?_
  refine j_aload_n (pc := 86) C dX2_turnPath_86 rfl 0 rfl ?_
  refine j_get (pc := 87) (q0 := 0) (ci := 2) (kf := 4) C dX2_turnPath_87 in_X2_turnPath_X2 rfl (by decide) fl_X2_turnPath_24 rfl rfl ?_
  refine j_iload_n (pc := 90) C dX2_turnPath_90 rfl 1 rfl ?_
  refine j_dup2 (pc := 91) C dX2_turnPath_91 rfl rfl ?_
  obtain ⟨h11, hd⟩ := lp_chk hd
  refine j_iald (pc := 92) (q0 := 3) C dX2_turnPath_92 rfl h11 ?_
  refine j_iconst (pc := 93) (v := 1) C dX2_turnPath_93 jk_I1 ?_
  refine j_isub (pc := 94) C dX2_turnPath_94 ?_
  obtain ⟨h12, hd⟩ := lp_chk hd
  refine j_iast (pc := 95) (q0 := 3) (ws2 := wd_X2_turnPath G a_t a_t_borrows a_t_lends a_t_room a_t_via a_t_worth a_t_wanted a_t_reach t_going t_chosen t_borrows t_lends (upd (upd t_room (v2).toNatClampNeg ((t_room (v2).toNatClampNeg) - 1)) (p1).toNatClampNeg (((upd t_room (v2).toNatClampNeg ((t_room (v2).toNatClampNeg) - 1)) (p1).toNatClampNeg) - 1)) t_via) C dX2_turnPath_95 rfl h12 rfl ?_
  obtain rfl := Option.some.inj hd
  exact j_vret (pc := 96) C hE dX2_turnPath_96 rfl rfl
set_option maxHeartbeats 8000000 in
set_option maxRecDepth 100000 in
theorem la_X2_turnPath (l : Launch) (G : jG) (a_t : Nat) (a_t_borrows : Nat) (a_t_lends : Nat) (a_t_room : Nat) (a_t_via : Nat) (a_t_worth : Nat) (a_t_wanted : Nat) (a_t_reach : Nat) (t_going : Int32) (t_borrows : Nat → Int32) (t_lends : Nat → Int32) (t_via : Nat → Int32) (p1 : Int32) (X : jX) (C : jC X l G 5 rm_X2_turnPath cX2_turnPath RX2 wsX2_turnPath) (r : Int32 × (Nat → Int32)) (hE : jE X none none (wd_X2_turnPath G a_t a_t_borrows a_t_lends a_t_room a_t_via a_t_worth a_t_wanted a_t_reach t_going r.1 t_borrows t_lends r.2 t_via)) (n : Nat) : (∀ (v2 : Int32) (v3 : Int32) (t_chosen : Int32) (t_room : Nat → Int32), lpN (st_X2_turnPath t_borrows t_lends t_via p1) n (.inl (v2, v3, t_chosen, t_room)) = some r → J X 0 0 (wd_X2_turnPath G a_t a_t_borrows a_t_lends a_t_room a_t_via a_t_worth a_t_wanted a_t_reach t_going t_chosen t_borrows t_lends t_room t_via) [(0, .ref a_t), (1, .int p1), (2, .int v2), (3, .int v3)] 4 []) ∧ (∀ (v2 : Int32) (t_chosen : Int32) (t_room : Nat → Int32), lpN (st_X2_turnPath t_borrows t_lends t_via p1) n (.inr ((v2, t_chosen, t_room))) = some r → J X 0 0 (wd_X2_turnPath G a_t a_t_borrows a_t_lends a_t_room a_t_via a_t_worth a_t_wanted a_t_reach t_going t_chosen t_borrows t_lends t_room t_via) [(0, .ref a_t), (1, .int p1), (2, .int v2)] 76 []) := by
  induction n with
  | zero => exact ⟨(fun v2 v3 t_chosen t_room h => by cases h), (fun v2 t_chosen t_room h => by cases h)⟩
  | succ n ih => exact ⟨(fun v2 v3 t_chosen t_room h => lb_X2_turnPath_0 l G a_t a_t_borrows a_t_lends a_t_room a_t_via a_t_worth a_t_wanted a_t_reach t_going t_borrows t_lends t_via p1 X C r hE n (ih.1) (ih.2) v2 v3 t_chosen t_room (by rw [lpN_succ] at h; exact h)), (fun v2 t_chosen t_room h => lb_X2_turnPath_1 l G a_t a_t_borrows a_t_lends a_t_room a_t_via a_t_worth a_t_wanted a_t_reach t_going t_borrows t_lends t_via p1 X C r hE n  v2 t_chosen t_room (by rw [lpN_succ] at h; exact h))⟩
set_option maxHeartbeats 8000000 in
set_option maxRecDepth 100000 in
theorem ct_X2_turnPath (l : Launch) (G : jG) (a_t : Nat) (a_t_borrows : Nat) (a_t_lends : Nat) (a_t_room : Nat) (a_t_via : Nat) (a_t_worth : Nat) (a_t_wanted : Nat) (a_t_reach : Nat) (t_going : Int32) (t_chosen : Int32) (t_borrows : Nat → Int32) (t_lends : Nat → Int32) (t_room : Nat → Int32) (t_via : Nat → Int32) (p1 : Int32) (r : Int32 × (Nat → Int32)) (hd : dn_X2_turnPath t_chosen t_borrows t_lends t_room t_via p1 = some r) : jM l G yX2_turnPath wsX2_turnPath rm_X2_turnPath [.ref a_t, .int p1] (wd_X2_turnPath G a_t a_t_borrows a_t_lends a_t_room a_t_via a_t_worth a_t_wanted a_t_reach t_going t_chosen t_borrows t_lends t_room t_via) none (wd_X2_turnPath G a_t a_t_borrows a_t_lends a_t_room a_t_via a_t_worth a_t_wanted a_t_reach t_going r.1 t_borrows t_lends r.2 t_via) := by
  refine jM_of (own := RX2) (by decide) rfl rfl rfl (Nat.le_of_ble_eq_true rfl) (lv0 := [(0, .ref a_t), (1, .int p1)]) rfl (fun X C hE => ?_)
  unfold dn_X2_turnPath at hd
  refine j_iload_n (pc := 0) C dX2_turnPath_0 rfl 1 rfl ?_
  refine j_istore_n (pc := 1) (lv2 := [(0, .ref a_t), (1, .int p1), (2, .int p1)]) C dX2_turnPath_1 rfl (by decide) [1, 2, 0] rfl ?_
  refine j_iconst (pc := 2) (v := 0) C dX2_turnPath_2 jk_I0 ?_
  refine j_istore_n (pc := 3) (lv2 := [(0, .ref a_t), (1, .int p1), (2, .int p1), (3, .int 0)]) C dX2_turnPath_3 rfl (by decide) [1, 2, 3, 0] rfl ?_
  refine j_sub (lv2 := [(0, .ref a_t), (1, .int p1), (2, .int p1), (3, .int 0)]) [0, 1, 2, 3] rfl ?_
  obtain ⟨n, hn⟩ := lpC_ex hd
  exact (la_X2_turnPath l G a_t a_t_borrows a_t_lends a_t_room a_t_via a_t_worth a_t_wanted a_t_reach t_going t_borrows t_lends t_via p1 X C r hE n).1 p1 0 t_chosen t_room hn
/-! ##### LendTown$Flow.gainOfYear(II)I -/
abbrev rm_X2_gainOfYear : Room := { frames := 2, cells := 0, slots := 0, locals := 50 }
theorem jy_X2_gainOfYear : jY yX2_gainOfYear wsX2_gainOfYear rm_X2_gainOfYear cX2_gainOfYear 6 (some .int) 2 := ⟨⟨_, rfl⟩, ⟨rfl, rfl⟩, by decide, by decide, by decide +kernel⟩
theorem in_X2_gainOfYear_X2 : ∀ w ∈ u_ws RX2 TX2 9, w ∈ wsX2_gainOfYear := fun w h => List.mem_cons_of_mem _ (List.mem_append_right _ (h))
theorem fl_X2_gainOfYear_37 : Cond.fieldLink RX2 37 "LendTown$Flow" "chosen" "I" ∈ wsX2_gainOfYear := List.mem_of_getElem? (i := 1) rfl
theorem fl_X2_gainOfYear_33 : Cond.fieldLink RX2 33 "LendTown$Flow" "going" "I" ∈ wsX2_gainOfYear := List.mem_of_getElem? (i := 2) rfl
theorem fl_X2_gainOfYear_27 : Cond.fieldLink RX2 27 "LendTown$Flow" "reach" "[I" ∈ wsX2_gainOfYear := List.mem_of_getElem? (i := 3) rfl
def wd_X2_gainOfYear (G : jG) (a_t : Nat) (a_t_borrows : Nat) (a_t_lends : Nat) (a_t_reach : Nat) (a_t_room : Nat) (a_t_via : Nat) (a_t_wanted : Nat) (a_t_worth : Nat) (t_going : Int32) (t_chosen : Int32) (t_borrows : Nat → Int32) (t_lends : Nat → Int32) (t_reach : Nat → Int32) (t_room : Nat → Int32) (t_via : Nat → Int32) (t_wanted : Nat → Int32) (t_worth : Nat → Int32) : va_W := [(a_t, .inr (2, [.ref a_t_lends, .ref a_t_borrows, .ref a_t_worth, .ref a_t_wanted, .ref a_t_room, .ref a_t_reach, .ref a_t_via, .int t_going, .int t_chosen])), (a_t_borrows, .inl (G.2.2.1, 30, .inl t_borrows)), (a_t_lends, .inl (G.2.2.1, 30, .inl t_lends)), (a_t_reach, .inl (G.2.2.1, 10, .inl t_reach)), (a_t_room, .inl (G.2.2.1, 10, .inl t_room)), (a_t_via, .inl (G.2.2.1, 10, .inl t_via)), (a_t_wanted, .inl (G.2.2.1, 10, .inl t_wanted)), (a_t_worth, .inl (G.2.2.1, 30, .inl t_worth))]
set_option maxHeartbeats 8000000 in
set_option maxRecDepth 100000 in
theorem lb_X2_gainOfYear_0 (l : Launch) (G : jG) (a_t : Nat) (a_t_borrows : Nat) (a_t_lends : Nat) (a_t_reach : Nat) (a_t_room : Nat) (a_t_via : Nat) (a_t_wanted : Nat) (a_t_worth : Nat) (t_going : Int32) (t_borrows : Nat → Int32) (t_lends : Nat → Int32) (t_wanted : Nat → Int32) (t_worth : Nat → Int32) (p1 : Int32) (p2 : Int32) (X : jX) (C : jC X l G 6 rm_X2_gainOfYear cX2_gainOfYear RX2 wsX2_gainOfYear) (r : Int32 × Int32 × (Nat → Int32) × (Nat → Int32) × (Nat → Int32)) (hE : jE X (some .int) (some (.int r.1)) (wd_X2_gainOfYear G a_t a_t_borrows a_t_lends a_t_reach a_t_room a_t_via a_t_wanted a_t_worth t_going r.2.1 t_borrows t_lends r.2.2.1 r.2.2.2.2 r.2.2.2.1 t_wanted t_worth)) (n : Nat) (IH0 : ∀ (v3 : Int32) (v4 : Int32) (t_chosen : Int32) (t_reach : Nat → Int32) (t_via : Nat → Int32) (t_room : Nat → Int32), lpN (st_X2_gainOfYear t_going t_borrows t_lends t_worth p1 p2) n ((v3, v4, t_chosen, t_reach, t_via, t_room)) = some r → J X 0 0 (wd_X2_gainOfYear G a_t a_t_borrows a_t_lends a_t_reach a_t_room a_t_via a_t_wanted a_t_worth t_going t_chosen t_borrows t_lends t_reach t_room t_via t_wanted t_worth) [(0, .ref a_t), (1, .int p1), (2, .int p2), (3, .int v3), (4, .int v4)] 23 []) (v3 : Int32) (v4 : Int32) (t_chosen : Int32) (t_reach : Nat → Int32) (t_via : Nat → Int32) (t_room : Nat → Int32) (hd : lpR (st_X2_gainOfYear t_going t_borrows t_lends t_worth p1 p2) n (bd_X2_gainOfYear_0 t_going t_borrows t_lends t_worth p1 p2 v3 v4 t_chosen t_reach t_via t_room) = some r) : J X 0 0 (wd_X2_gainOfYear G a_t a_t_borrows a_t_lends a_t_reach a_t_room a_t_via a_t_wanted a_t_worth t_going t_chosen t_borrows t_lends t_reach t_room t_via t_wanted t_worth) [(0, .ref a_t), (1, .int p1), (2, .int p2), (3, .int v3), (4, .int v4)] 23 [] := by
  unfold bd_X2_gainOfYear_0 at hd
  refine j_iload (pc := 23) C dX2_gainOfYear_23 4 rfl ?_
  refine j_aload_n (pc := 25) C dX2_gainOfYear_25 rfl 0 rfl ?_
  refine j_get (pc := 26) (q0 := 0) (ci := 2) (kf := 7) C dX2_gainOfYear_26 in_X2_gainOfYear_X2 rfl (by decide) fl_X2_gainOfYear_33 rfl rfl ?_
  refine j_icmp_ge (pc := 29) (tgt := 76) C dX2_gainOfYear_29 (by decide) (fun c4 => ?_) (fun c4 => ?_)
  · have hd := lp_pos c4 hd
    refine j_iload_n (pc := 76) C dX2_gainOfYear_76 rfl 3 rfl ?_
    obtain rfl := Option.some.inj hd
    exact j_iret (pc := 77) C hE dX2_gainOfYear_77 rfl rfl
  · have hd := lp_neg c4 hd
    refine j_aload_n (pc := 32) C dX2_gainOfYear_32 rfl 0 rfl ?_
    refine j_iload_n (pc := 33) C dX2_gainOfYear_33 rfl 1 rfl ?_
    refine j_iload_n (pc := 34) C dX2_gainOfYear_34 rfl 2 rfl ?_
    obtain ⟨q5, eq5, hd⟩ := lp_bind hd
    refine j_callV (pc := 35) (q0 := 0) (ci := 2) (As := [.int p1, .int p2]) (rest := []) (st2 := []) (ws2 := wd_X2_gainOfYear G a_t a_t_borrows a_t_lends a_t_reach a_t_room a_t_via a_t_wanted a_t_worth t_going t_chosen t_borrows t_lends q5.1 t_room q5.2 t_wanted t_worth) C (ct_X2_spread l G a_t a_t_borrows a_t_lends a_t_reach a_t_room a_t_via a_t_worth a_t_wanted t_going t_chosen t_borrows t_lends t_reach t_room t_via t_worth p1 p2 q5 eq5) jy_X2_spread dX2_gainOfYear_35 gX2_gainOfYear_X2_spread rfl rfl (by decide) ⟨Nat.zero_le _, Nat.zero_le _⟩ [0, 1, 2, 3, 4, 5, 7] rfl rfl (jpt_eq rfl rfl rfl) rfl rfl rfl (Nat.le_of_ble_eq_true rfl) rfl ?_
    refine j_aload_n (pc := 38) C dX2_gainOfYear_38 rfl 0 rfl ?_
    refine j_iload_n (pc := 39) C dX2_gainOfYear_39 rfl 1 rfl ?_
    refine j_iload_n (pc := 40) C dX2_gainOfYear_40 rfl 2 rfl ?_
    obtain ⟨q6, eq6, hd⟩ := lp_bind hd
    refine j_callV (pc := 41) (q0 := 0) (ci := 2) (As := [.int p1, .int p2]) (rest := []) (st2 := [.int q6]) (ws2 := wd_X2_gainOfYear G a_t a_t_borrows a_t_lends a_t_reach a_t_room a_t_via a_t_wanted a_t_worth t_going t_chosen t_borrows t_lends q5.1 t_room q5.2 t_wanted t_worth) C (ct_X2_bestEnd l G a_t a_t_reach a_t_room a_t_lends a_t_borrows a_t_worth a_t_wanted a_t_via t_going t_chosen q5.1 t_room p1 p2 q6 eq6) jy_X2_bestEnd dX2_gainOfYear_41 gX2_gainOfYear_X2_bestEnd rfl rfl (by decide) ⟨Nat.zero_le _, Nat.zero_le _⟩ [0, 3, 4] rfl rfl (jpt_eq rfl rfl rfl) rfl rfl rfl (Nat.le_of_ble_eq_true rfl) rfl ?_
    refine j_istore (pc := 44) (lv2 := [(0, .ref a_t), (1, .int p1), (2, .int p2), (3, .int v3), (4, .int v4), (5, .int q6)]) C dX2_gainOfYear_44 (by decide) [1, 2, 3, 4, 5, 0] rfl ?_
    refine j_iload (pc := 46) C dX2_gainOfYear_46 5 rfl ?_
    refine j_iconst (pc := 48) (v := (-1)) C dX2_gainOfYear_48 jk_Im1 ?_
    refine j_icmp_ne (pc := 49) (tgt := 54) C dX2_gainOfYear_49 (by decide) (fun c7 => ?_) (fun c7 => ?_)
    · have hd := lp_neg c7 hd
      refine j_iload_n (pc := 54) C dX2_gainOfYear_54 rfl 3 rfl ?_
      refine j_aload_n (pc := 55) C dX2_gainOfYear_55 rfl 0 rfl ?_
      refine j_get (pc := 56) (q0 := 0) (ci := 2) (kf := 5) C dX2_gainOfYear_56 in_X2_gainOfYear_X2 rfl (by decide) fl_X2_gainOfYear_27 rfl rfl ?_
      refine j_iload (pc := 59) C dX2_gainOfYear_59 5 rfl ?_
      obtain ⟨h8, hd⟩ := lp_chk hd
      refine j_iald (pc := 61) (q0 := 3) C dX2_gainOfYear_61 rfl h8 ?_
      refine j_iadd (pc := 62) C dX2_gainOfYear_62 ?_
      refine j_istore_n (pc := 63) (lv2 := [(0, .ref a_t), (1, .int p1), (2, .int p2), (3, .int (v3 + (q5.1 (q6).toNatClampNeg))), (4, .int v4), (5, .int q6)]) C dX2_gainOfYear_63 rfl (by decide) [1, 2, 3, 0, 4, 5] rfl ?_
      refine j_aload_n (pc := 64) C dX2_gainOfYear_64 rfl 0 rfl ?_
      refine j_iload (pc := 65) C dX2_gainOfYear_65 5 rfl ?_
      obtain ⟨q9, eq9, hd⟩ := lp_bind hd
      refine j_callV (pc := 67) (q0 := 0) (ci := 2) (As := [.int q6]) (rest := []) (st2 := []) (ws2 := wd_X2_gainOfYear G a_t a_t_borrows a_t_lends a_t_reach a_t_room a_t_via a_t_wanted a_t_worth t_going q9.1 t_borrows t_lends q5.1 q9.2 q5.2 t_wanted t_worth) C (ct_X2_turnPath l G a_t a_t_borrows a_t_lends a_t_room a_t_via a_t_worth a_t_wanted a_t_reach t_going t_chosen t_borrows t_lends t_room q5.2 q6 q9 eq9) jy_X2_turnPath dX2_gainOfYear_67 gX2_gainOfYear_X2_turnPath rfl rfl (by decide) ⟨Nat.zero_le _, Nat.zero_le _⟩ [0, 1, 2, 4, 5] rfl rfl (jpt_eq rfl rfl rfl) rfl rfl rfl (Nat.le_of_ble_eq_true rfl) rfl ?_
      refine j_iinc (pc := 70) (lv2 := [(0, .ref a_t), (1, .int p1), (2, .int p2), (3, .int (v3 + (q5.1 (q6).toNatClampNeg))), (4, .int (v4 + 1)), (5, .int q6)]) C dX2_gainOfYear_70 jk_I1 (by decide) 4 rfl [1, 2, 3, 4, 0, 5] rfl ?_
      refine j_goto (pc := 73) (tgt := 23) C dX2_gainOfYear_73 (by decide) ?_
      refine j_sub (lv2 := [(0, .ref a_t), (1, .int p1), (2, .int p2), (3, .int (v3 + (q5.1 (q6).toNatClampNeg))), (4, .int (v4 + 1))]) [0, 1, 2, 3, 4] rfl ?_
      exact IH0 (v3 + (q5.1 (q6).toNatClampNeg)) (v4 + 1) q9.1 q5.1 q5.2 q9.2 hd
    · have hd := lp_pos c7 hd
      refine j_iload_n (pc := 52) C dX2_gainOfYear_52 rfl 3 rfl ?_
      obtain rfl := Option.some.inj hd
      exact j_iret (pc := 53) C hE dX2_gainOfYear_53 rfl rfl
set_option maxHeartbeats 8000000 in
set_option maxRecDepth 100000 in
theorem la_X2_gainOfYear (l : Launch) (G : jG) (a_t : Nat) (a_t_borrows : Nat) (a_t_lends : Nat) (a_t_reach : Nat) (a_t_room : Nat) (a_t_via : Nat) (a_t_wanted : Nat) (a_t_worth : Nat) (t_going : Int32) (t_borrows : Nat → Int32) (t_lends : Nat → Int32) (t_wanted : Nat → Int32) (t_worth : Nat → Int32) (p1 : Int32) (p2 : Int32) (X : jX) (C : jC X l G 6 rm_X2_gainOfYear cX2_gainOfYear RX2 wsX2_gainOfYear) (r : Int32 × Int32 × (Nat → Int32) × (Nat → Int32) × (Nat → Int32)) (hE : jE X (some .int) (some (.int r.1)) (wd_X2_gainOfYear G a_t a_t_borrows a_t_lends a_t_reach a_t_room a_t_via a_t_wanted a_t_worth t_going r.2.1 t_borrows t_lends r.2.2.1 r.2.2.2.2 r.2.2.2.1 t_wanted t_worth)) (n : Nat) : (∀ (v3 : Int32) (v4 : Int32) (t_chosen : Int32) (t_reach : Nat → Int32) (t_via : Nat → Int32) (t_room : Nat → Int32), lpN (st_X2_gainOfYear t_going t_borrows t_lends t_worth p1 p2) n ((v3, v4, t_chosen, t_reach, t_via, t_room)) = some r → J X 0 0 (wd_X2_gainOfYear G a_t a_t_borrows a_t_lends a_t_reach a_t_room a_t_via a_t_wanted a_t_worth t_going t_chosen t_borrows t_lends t_reach t_room t_via t_wanted t_worth) [(0, .ref a_t), (1, .int p1), (2, .int p2), (3, .int v3), (4, .int v4)] 23 []) := by
  induction n with
  | zero => exact (fun v3 v4 t_chosen t_reach t_via t_room h => by cases h)
  | succ n ih => exact (fun v3 v4 t_chosen t_reach t_via t_room h => lb_X2_gainOfYear_0 l G a_t a_t_borrows a_t_lends a_t_reach a_t_room a_t_via a_t_wanted a_t_worth t_going t_borrows t_lends t_wanted t_worth p1 p2 X C r hE n (ih) v3 v4 t_chosen t_reach t_via t_room (by rw [lpN_succ] at h; exact h))
set_option maxHeartbeats 8000000 in
set_option maxRecDepth 100000 in
theorem ct_X2_gainOfYear (l : Launch) (G : jG) (a_t : Nat) (a_t_borrows : Nat) (a_t_lends : Nat) (a_t_reach : Nat) (a_t_room : Nat) (a_t_via : Nat) (a_t_wanted : Nat) (a_t_worth : Nat) (t_going : Int32) (t_chosen : Int32) (t_borrows : Nat → Int32) (t_lends : Nat → Int32) (t_reach : Nat → Int32) (t_room : Nat → Int32) (t_via : Nat → Int32) (t_wanted : Nat → Int32) (t_worth : Nat → Int32) (p1 : Int32) (p2 : Int32) (r : Int32 × Int32 × (Nat → Int32) × (Nat → Int32) × (Nat → Int32)) (hd : dn_X2_gainOfYear t_going t_chosen t_borrows t_lends t_reach t_room t_via t_wanted t_worth p1 p2 = some r) : jM l G yX2_gainOfYear wsX2_gainOfYear rm_X2_gainOfYear [.ref a_t, .int p1, .int p2] (wd_X2_gainOfYear G a_t a_t_borrows a_t_lends a_t_reach a_t_room a_t_via a_t_wanted a_t_worth t_going t_chosen t_borrows t_lends t_reach t_room t_via t_wanted t_worth) (some (.int r.1)) (wd_X2_gainOfYear G a_t a_t_borrows a_t_lends a_t_reach a_t_room a_t_via a_t_wanted a_t_worth t_going r.2.1 t_borrows t_lends r.2.2.1 r.2.2.2.2 r.2.2.2.1 t_wanted t_worth) := by
  refine jM_of (own := RX2) (by decide) rfl rfl rfl (Nat.le_of_ble_eq_true rfl) (lv0 := [(0, .ref a_t), (1, .int p1), (2, .int p2)]) rfl (fun X C hE => ?_)
  unfold dn_X2_gainOfYear at hd
  refine j_aload_n (pc := 0) C dX2_gainOfYear_0 rfl 0 rfl ?_
  refine j_iload_n (pc := 1) C dX2_gainOfYear_1 rfl 1 rfl ?_
  obtain ⟨q1, eq1, hd⟩ := ob_bind hd
  refine j_callV (pc := 2) (q0 := 0) (ci := 2) (As := [.int p1]) (rest := []) (st2 := [.int (b2i q1)]) (ws2 := wd_X2_gainOfYear G a_t a_t_borrows a_t_lends a_t_reach a_t_room a_t_via a_t_wanted a_t_worth t_going t_chosen t_borrows t_lends t_reach t_room t_via t_wanted t_worth) C (ct_X2_allFit l G a_t a_t_room a_t_wanted a_t_lends a_t_borrows a_t_worth a_t_reach a_t_via t_going t_chosen t_room t_wanted p1 q1 eq1) jy_X2_allFit dX2_gainOfYear_2 gX2_gainOfYear_X2_allFit rfl rfl (by decide) ⟨Nat.zero_le _, Nat.zero_le _⟩ [0, 4, 6] rfl rfl (jpt_eq rfl rfl rfl) rfl rfl rfl (Nat.le_of_ble_eq_true rfl) rfl ?_
  refine j_ifb_eq (pc := 5) (tgt := 13) C dX2_gainOfYear_5 (by decide) (fun c2 => ?_) (fun c2 => ?_)
  · have hd := ob_neg c2 hd
    refine j_aload_n (pc := 13) C dX2_gainOfYear_13 rfl 0 rfl ?_
    refine j_iconst (pc := 14) (v := 0) C dX2_gainOfYear_14 jk_I0 ?_
    refine j_put (pc := 15) (q0 := 0) (ci := 2) (kf := 8) (ws2 := wd_X2_gainOfYear G a_t a_t_borrows a_t_lends a_t_reach a_t_room a_t_via a_t_wanted a_t_worth t_going 0 t_borrows t_lends t_reach t_room t_via t_wanted t_worth) C dX2_gainOfYear_15 in_X2_gainOfYear_X2 tyX2 tyX2_ok nmX2 rfl (by decide) fl_X2_gainOfYear_37 rfl rfl rfl rfl (Nat.le_of_ble_eq_true rfl) rfl ?_
    refine j_iconst (pc := 18) (v := 0) C dX2_gainOfYear_18 jk_I0 ?_
    refine j_istore_n (pc := 19) (lv2 := [(0, .ref a_t), (1, .int p1), (2, .int p2), (3, .int 0)]) C dX2_gainOfYear_19 rfl (by decide) [1, 2, 3, 0] rfl ?_
    refine j_iconst (pc := 20) (v := 0) C dX2_gainOfYear_20 jk_I0 ?_
    refine j_istore (pc := 21) (lv2 := [(0, .ref a_t), (1, .int p1), (2, .int p2), (3, .int 0), (4, .int 0)]) C dX2_gainOfYear_21 (by decide) [1, 2, 3, 4, 0] rfl ?_
    refine j_sub (lv2 := [(0, .ref a_t), (1, .int p1), (2, .int p2), (3, .int 0), (4, .int 0)]) [0, 1, 2, 3, 4] rfl ?_
    obtain ⟨n, hn⟩ := lpC_ex hd
    exact (la_X2_gainOfYear l G a_t a_t_borrows a_t_lends a_t_reach a_t_room a_t_via a_t_wanted a_t_worth t_going t_borrows t_lends t_wanted t_worth p1 p2 X C r hE n) 0 0 0 t_reach t_via t_room hn
  · have hd := ob_pos c2 hd
    refine j_aload_n (pc := 8) C dX2_gainOfYear_8 rfl 0 rfl ?_
    obtain ⟨q3, eq3, hd⟩ := ob_bind hd
    refine j_callV (pc := 9) (q0 := 0) (ci := 2) (As := []) (rest := []) (st2 := [.int q3]) (ws2 := wd_X2_gainOfYear G a_t a_t_borrows a_t_lends a_t_reach a_t_room a_t_via a_t_wanted a_t_worth t_going t_chosen t_borrows t_lends t_reach t_room t_via t_wanted t_worth) C (ct_X2_sumOfGoing l G a_t a_t_worth a_t_lends a_t_borrows a_t_wanted a_t_room a_t_reach a_t_via t_going t_chosen t_worth q3 eq3) jy_X2_sumOfGoing dX2_gainOfYear_9 gX2_gainOfYear_X2_sumOfGoing rfl rfl (by decide) ⟨Nat.zero_le _, Nat.zero_le _⟩ [0, 7] rfl rfl (jpt_eq rfl rfl rfl) rfl rfl rfl (Nat.le_of_ble_eq_true rfl) rfl ?_
    obtain rfl := Option.some.inj hd
    exact j_iret (pc := 12) C hE dX2_gainOfYear_12 rfl rfl
/-! ##### LendTown$Flow.gainWithLimit(LLendTown$Town;III)I -/
abbrev rm_X2_gainWithLimit : Room := { frames := 3, cells := 0, slots := 0, locals := 75 }
theorem jy_X2_gainWithLimit : jY yX2_gainWithLimit wsX2_gainWithLimit rm_X2_gainWithLimit cX2_gainWithLimit 8 (some .int) 4 := ⟨⟨_, rfl⟩, ⟨rfl, rfl⟩, by decide, by decide, by decide +kernel⟩
theorem in_X2_gainWithLimit_X10 : ∀ w ∈ u_ws RX10 TX10 17, w ∈ wsX2_gainWithLimit := fun w h => List.mem_cons_of_mem _ (List.mem_append_left _ (List.mem_append_right _ (h)))
theorem in_X2_gainWithLimit_X2 : ∀ w ∈ u_ws RX2 TX2 9, w ∈ wsX2_gainWithLimit := fun w h => List.mem_cons_of_mem _ (List.mem_append_right _ (h))
theorem fl_X2_gainWithLimit_55 : Cond.fieldLink RX2 55 "LendTown$Town" "deals" "I" ∈ wsX2_gainWithLimit := List.mem_of_getElem? (i := 1) rfl
theorem fl_X2_gainWithLimit_58 : Cond.fieldLink RX2 58 "LendTown$Town" "year" "[I" ∈ wsX2_gainWithLimit := List.mem_of_getElem? (i := 2) rfl
theorem fl_X2_gainWithLimit_61 : Cond.fieldLink RX2 61 "LendTown$Town" "byYear" "[I" ∈ wsX2_gainWithLimit := List.mem_of_getElem? (i := 3) rfl
theorem fl_X2_gainWithLimit_64 : Cond.fieldLink RX2 64 "LendTown$Town" "limit" "[I" ∈ wsX2_gainWithLimit := List.mem_of_getElem? (i := 4) rfl
theorem fl_X2_gainWithLimit_24 : Cond.fieldLink RX2 24 "LendTown$Flow" "room" "[I" ∈ wsX2_gainWithLimit := List.mem_of_getElem? (i := 5) rfl
theorem fl_X2_gainWithLimit_77 : Cond.fieldLink RX2 77 "LendTown$Town" "persons" "I" ∈ wsX2_gainWithLimit := List.mem_of_getElem? (i := 10) rfl
def wd_X2_gainWithLimit (G : jG) (a_t : Nat) (a_t_borrows : Nat) (a_t_lends : Nat) (a_t_reach : Nat) (a_t_room : Nat) (a_t_via : Nat) (a_t_wanted : Nat) (a_t_worth : Nat) (a_p1 : Nat) (a_p1_borrower : Nat) (a_p1_borrowerGain : Nat) (a_p1_byYear : Nat) (a_p1_either : Nat) (a_p1_lender : Nat) (a_p1_lenderGain : Nat) (a_p1_limit : Nat) (a_p1_year : Nat) (t_going : Int32) (t_chosen : Int32) (t_borrows : Nat → Int32) (t_lends : Nat → Int32) (t_reach : Nat → Int32) (t_room : Nat → Int32) (t_via : Nat → Int32) (t_wanted : Nat → Int32) (t_worth : Nat → Int32) (p1_persons : Int32) (p1_deals : Int32) (p1_lawYears : Int32) (p1_toldParts : Int32) (a_p1_personNames : Nat) (a_p1_born : Nat) (a_p1_dies : Nat) (a_p1_dealNames : Nat) (a_p1_memo : Nat) (p1_borrower : Nat → Int32) (p1_borrowerGain : Nat → Int32) (p1_byYear : Nat → Int32) (p1_either : Nat → Int32) (p1_lender : Nat → Int32) (p1_lenderGain : Nat → Int32) (p1_limit : Nat → Int32) (p1_year : Nat → Int32) : va_W := [(a_t, .inr (2, [.ref a_t_lends, .ref a_t_borrows, .ref a_t_worth, .ref a_t_wanted, .ref a_t_room, .ref a_t_reach, .ref a_t_via, .int t_going, .int t_chosen])), (a_t_borrows, .inl (G.2.2.1, 30, .inl t_borrows)), (a_t_lends, .inl (G.2.2.1, 30, .inl t_lends)), (a_t_reach, .inl (G.2.2.1, 10, .inl t_reach)), (a_t_room, .inl (G.2.2.1, 10, .inl t_room)), (a_t_via, .inl (G.2.2.1, 10, .inl t_via)), (a_t_wanted, .inl (G.2.2.1, 10, .inl t_wanted)), (a_t_worth, .inl (G.2.2.1, 30, .inl t_worth)), (a_p1, .inr (10, [.int p1_persons, .int p1_deals, .int p1_lawYears, .int p1_toldParts, .ref a_p1_personNames, .ref a_p1_born, .ref a_p1_dies, .ref a_p1_limit, .ref a_p1_dealNames, .ref a_p1_lender, .ref a_p1_borrower, .ref a_p1_year, .ref a_p1_lenderGain, .ref a_p1_borrowerGain, .ref a_p1_either, .ref a_p1_byYear, .ref a_p1_memo])), (a_p1_borrower, .inl (G.2.2.1, 30, .inl p1_borrower)), (a_p1_borrowerGain, .inl (G.2.2.1, 30, .inl p1_borrowerGain)), (a_p1_byYear, .inl (G.2.2.1, 30, .inl p1_byYear)), (a_p1_either, .inl (G.2.2.1, 30, .inl p1_either)), (a_p1_lender, .inl (G.2.2.1, 30, .inl p1_lender)), (a_p1_lenderGain, .inl (G.2.2.1, 30, .inl p1_lenderGain)), (a_p1_limit, .inl (G.2.2.1, 10, .inl p1_limit)), (a_p1_year, .inl (G.2.2.1, 30, .inl p1_year))]
set_option maxHeartbeats 8000000 in
set_option maxRecDepth 100000 in
theorem lb_X2_gainWithLimit_0 (l : Launch) (G : jG) (a_t : Nat) (a_t_borrows : Nat) (a_t_lends : Nat) (a_t_reach : Nat) (a_t_room : Nat) (a_t_via : Nat) (a_t_wanted : Nat) (a_t_worth : Nat) (a_p1 : Nat) (a_p1_borrower : Nat) (a_p1_borrowerGain : Nat) (a_p1_byYear : Nat) (a_p1_either : Nat) (a_p1_lender : Nat) (a_p1_lenderGain : Nat) (a_p1_limit : Nat) (a_p1_year : Nat) (p1_persons : Int32) (p1_deals : Int32) (p1_lawYears : Int32) (p1_toldParts : Int32) (a_p1_personNames : Nat) (a_p1_born : Nat) (a_p1_dies : Nat) (a_p1_dealNames : Nat) (a_p1_memo : Nat) (p1_borrower : Nat → Int32) (p1_borrowerGain : Nat → Int32) (p1_byYear : Nat → Int32) (p1_either : Nat → Int32) (p1_lender : Nat → Int32) (p1_lenderGain : Nat → Int32) (p1_limit : Nat → Int32) (p1_year : Nat → Int32) (p2 : Int32) (p3 : Int32) (p4 : Int32) (X : jX) (C : jC X l G 8 rm_X2_gainWithLimit cX2_gainWithLimit RX2 wsX2_gainWithLimit) (r : Int32 × (Nat → Int32) × Int32 × (Nat → Int32) × (Nat → Int32) × (Nat → Int32) × (Nat → Int32) × Int32 × (Nat → Int32) × (Nat → Int32)) (hE : jE X (some .int) (some (.int r.1)) (wd_X2_gainWithLimit G a_t a_t_borrows a_t_lends a_t_reach a_t_room a_t_via a_t_wanted a_t_worth a_p1 a_p1_borrower a_p1_borrowerGain a_p1_byYear a_p1_either a_p1_lender a_p1_lenderGain a_p1_limit a_p1_year r.2.2.1 r.2.2.2.2.2.2.2.1 r.2.2.2.2.2.1 r.2.2.2.2.1 r.2.2.2.2.2.2.2.2.1 r.2.1 r.2.2.2.2.2.2.2.2.2 r.2.2.2.1 r.2.2.2.2.2.2.1 p1_persons p1_deals p1_lawYears p1_toldParts a_p1_personNames a_p1_born a_p1_dies a_p1_dealNames a_p1_memo p1_borrower p1_borrowerGain p1_byYear p1_either p1_lender p1_lenderGain p1_limit p1_year)) (n : Nat) (IH0 : ∀ (v5 : Int32) (v6 : Int32) (v7 : Int32) (t_room : Nat → Int32) (t_going : Int32) (t_wanted : Nat → Int32) (t_lends : Nat → Int32) (t_borrows : Nat → Int32) (t_worth : Nat → Int32) (t_chosen : Int32) (t_reach : Nat → Int32) (t_via : Nat → Int32), lpN (st_X2_gainWithLimit p1_persons p1_deals p1_borrower p1_borrowerGain p1_byYear p1_either p1_lender p1_lenderGain p1_limit p1_year p2 p3 p4) n (.inl (v5, v6, v7, t_room, t_going, t_wanted, t_lends, t_borrows, t_worth, t_chosen, t_reach, t_via)) = some r → J X 0 0 (wd_X2_gainWithLimit G a_t a_t_borrows a_t_lends a_t_reach a_t_room a_t_via a_t_wanted a_t_worth a_p1 a_p1_borrower a_p1_borrowerGain a_p1_byYear a_p1_either a_p1_lender a_p1_lenderGain a_p1_limit a_p1_year t_going t_chosen t_borrows t_lends t_reach t_room t_via t_wanted t_worth p1_persons p1_deals p1_lawYears p1_toldParts a_p1_personNames a_p1_born a_p1_dies a_p1_dealNames a_p1_memo p1_borrower p1_borrowerGain p1_byYear p1_either p1_lender p1_lenderGain p1_limit p1_year) [(0, .ref a_t), (1, .ref a_p1), (2, .int p2), (3, .int p3), (4, .int p4), (5, .int v5), (6, .int v6), (7, .int v7)] 9 []) (IH1 : ∀ (v5 : Int32) (v6 : Int32) (v7 : Int32) (t_room : Nat → Int32) (t_going : Int32) (t_wanted : Nat → Int32) (t_lends : Nat → Int32) (t_borrows : Nat → Int32) (t_worth : Nat → Int32) (t_chosen : Int32) (t_reach : Nat → Int32) (t_via : Nat → Int32), lpN (st_X2_gainWithLimit p1_persons p1_deals p1_borrower p1_borrowerGain p1_byYear p1_either p1_lender p1_lenderGain p1_limit p1_year p2 p3 p4) n (.inr (.inl (v5, v6, v7, t_room, t_going, t_wanted, t_lends, t_borrows, t_worth, t_chosen, t_reach, t_via))) = some r → J X 0 0 (wd_X2_gainWithLimit G a_t a_t_borrows a_t_lends a_t_reach a_t_room a_t_via a_t_wanted a_t_worth a_p1 a_p1_borrower a_p1_borrowerGain a_p1_byYear a_p1_either a_p1_lender a_p1_lenderGain a_p1_limit a_p1_year t_going t_chosen t_borrows t_lends t_reach t_room t_via t_wanted t_worth p1_persons p1_deals p1_lawYears p1_toldParts a_p1_personNames a_p1_born a_p1_dies a_p1_dealNames a_p1_memo p1_borrower p1_borrowerGain p1_byYear p1_either p1_lender p1_lenderGain p1_limit p1_year) [(0, .ref a_t), (1, .ref a_p1), (2, .int p2), (3, .int p3), (4, .int p4), (5, .int v5), (6, .int v6), (7, .int v7)] 54 []) (v5 : Int32) (v6 : Int32) (v7 : Int32) (t_room : Nat → Int32) (t_going : Int32) (t_wanted : Nat → Int32) (t_lends : Nat → Int32) (t_borrows : Nat → Int32) (t_worth : Nat → Int32) (t_chosen : Int32) (t_reach : Nat → Int32) (t_via : Nat → Int32) (hd : lpR (st_X2_gainWithLimit p1_persons p1_deals p1_borrower p1_borrowerGain p1_byYear p1_either p1_lender p1_lenderGain p1_limit p1_year p2 p3 p4) n (bd_X2_gainWithLimit_0 p1_persons p1_deals p1_borrower p1_borrowerGain p1_byYear p1_either p1_lender p1_lenderGain p1_limit p1_year p2 p3 p4 v5 v6 v7 t_room t_going t_wanted t_lends t_borrows t_worth t_chosen t_reach t_via) = some r) : J X 0 0 (wd_X2_gainWithLimit G a_t a_t_borrows a_t_lends a_t_reach a_t_room a_t_via a_t_wanted a_t_worth a_p1 a_p1_borrower a_p1_borrowerGain a_p1_byYear a_p1_either a_p1_lender a_p1_lenderGain a_p1_limit a_p1_year t_going t_chosen t_borrows t_lends t_reach t_room t_via t_wanted t_worth p1_persons p1_deals p1_lawYears p1_toldParts a_p1_personNames a_p1_born a_p1_dies a_p1_dealNames a_p1_memo p1_borrower p1_borrowerGain p1_byYear p1_either p1_lender p1_lenderGain p1_limit p1_year) [(0, .ref a_t), (1, .ref a_p1), (2, .int p2), (3, .int p3), (4, .int p4), (5, .int v5), (6, .int v6), (7, .int v7)] 9 [] := by
  unfold bd_X2_gainWithLimit_0 at hd
  refine j_iload (pc := 9) C dX2_gainWithLimit_9 7 rfl ?_
  refine j_aload_n (pc := 11) C dX2_gainWithLimit_11 rfl 1 rfl ?_
  refine j_get (pc := 12) (q0 := 8) (ci := 10) (kf := 1) C dX2_gainWithLimit_12 in_X2_gainWithLimit_X10 rfl (by decide) fl_X2_gainWithLimit_55 rfl rfl ?_
  refine j_icmp_gt (pc := 15) (tgt := 116) C dX2_gainWithLimit_15 (by decide) (fun c1 => ?_) (fun c1 => ?_)
  · have hd := lp_pos c1 hd
    refine j_iload (pc := 116) C dX2_gainWithLimit_116 5 rfl ?_
    obtain rfl := Option.some.inj hd
    exact j_iret (pc := 118) C hE dX2_gainWithLimit_118 rfl rfl
  · have hd := lp_neg c1 hd
    refine j_iload (pc := 18) C dX2_gainWithLimit_18 7 rfl ?_
    refine j_aload_n (pc := 20) C dX2_gainWithLimit_20 rfl 1 rfl ?_
    refine j_get (pc := 21) (q0 := 8) (ci := 10) (kf := 1) C dX2_gainWithLimit_21 in_X2_gainWithLimit_X10 rfl (by decide) fl_X2_gainWithLimit_55 rfl rfl ?_
    refine j_icmp_eq (pc := 24) (tgt := 54) C dX2_gainWithLimit_24 (by decide) (fun c2 => ?_) (fun c2 => ?_)
    · have hd := lp_pos c2 hd
      refine j_sub (lv2 := [(0, .ref a_t), (1, .ref a_p1), (2, .int p2), (3, .int p3), (4, .int p4), (5, .int v5), (6, .int v6), (7, .int v7)]) [0, 1, 2, 3, 4, 5, 6, 7] rfl ?_
      exact IH1 v5 v6 v7 t_room t_going t_wanted t_lends t_borrows t_worth t_chosen t_reach t_via hd
    · have hd := lp_neg c2 hd
      refine j_aload_n (pc := 27) C dX2_gainWithLimit_27 rfl 1 rfl ?_
      refine j_get (pc := 28) (q0 := 8) (ci := 10) (kf := 11) C dX2_gainWithLimit_28 in_X2_gainWithLimit_X10 rfl (by decide) fl_X2_gainWithLimit_58 rfl rfl ?_
      refine j_aload_n (pc := 31) C dX2_gainWithLimit_31 rfl 1 rfl ?_
      refine j_get (pc := 32) (q0 := 8) (ci := 10) (kf := 15) C dX2_gainWithLimit_32 in_X2_gainWithLimit_X10 rfl (by decide) fl_X2_gainWithLimit_61 rfl rfl ?_
      refine j_iload (pc := 35) C dX2_gainWithLimit_35 7 rfl ?_
      obtain ⟨h3, hd⟩ := lp_chk hd
      refine j_iald (pc := 37) (q0 := 11) C dX2_gainWithLimit_37 rfl h3 ?_
      obtain ⟨h4, hd⟩ := lp_chk hd
      refine j_iald (pc := 38) (q0 := 16) C dX2_gainWithLimit_38 rfl h4 ?_
      refine j_aload_n (pc := 39) C dX2_gainWithLimit_39 rfl 1 rfl ?_
      refine j_get (pc := 40) (q0 := 8) (ci := 10) (kf := 11) C dX2_gainWithLimit_40 in_X2_gainWithLimit_X10 rfl (by decide) fl_X2_gainWithLimit_58 rfl rfl ?_
      refine j_aload_n (pc := 43) C dX2_gainWithLimit_43 rfl 1 rfl ?_
      refine j_get (pc := 44) (q0 := 8) (ci := 10) (kf := 15) C dX2_gainWithLimit_44 in_X2_gainWithLimit_X10 rfl (by decide) fl_X2_gainWithLimit_61 rfl rfl ?_
      refine j_iload (pc := 47) C dX2_gainWithLimit_47 6 rfl ?_
      obtain ⟨h5, hd⟩ := lp_chk hd
      refine j_iald (pc := 49) (q0 := 11) C dX2_gainWithLimit_49 rfl h5 ?_
      obtain ⟨h6, hd⟩ := lp_chk hd
      refine j_iald (pc := 50) (q0 := 16) C dX2_gainWithLimit_50 rfl h6 ?_
      refine j_icmp_eq (pc := 51) (tgt := 110) C dX2_gainWithLimit_51 (by decide) (fun c7 => ?_) (fun c7 => ?_)
      · have hd := lp_pos c7 hd
        refine j_iinc (pc := 110) (lv2 := [(0, .ref a_t), (1, .ref a_p1), (2, .int p2), (3, .int p3), (4, .int p4), (5, .int v5), (6, .int v6), (7, .int (v7 + 1))]) C dX2_gainWithLimit_110 jk_I1 (by decide) 7 rfl [1, 2, 3, 4, 5, 6, 7, 0] rfl ?_
        refine j_goto (pc := 113) (tgt := 9) C dX2_gainWithLimit_113 (by decide) ?_
        refine j_sub (lv2 := [(0, .ref a_t), (1, .ref a_p1), (2, .int p2), (3, .int p3), (4, .int p4), (5, .int v5), (6, .int v6), (7, .int (v7 + 1))]) [0, 1, 2, 3, 4, 5, 6, 7] rfl ?_
        exact IH0 v5 v6 (v7 + 1) t_room t_going t_wanted t_lends t_borrows t_worth t_chosen t_reach t_via hd
      · have hd := lp_neg c7 hd
        refine j_sub (lv2 := [(0, .ref a_t), (1, .ref a_p1), (2, .int p2), (3, .int p3), (4, .int p4), (5, .int v5), (6, .int v6), (7, .int v7)]) [0, 1, 2, 3, 4, 5, 6, 7] rfl ?_
        exact IH1 v5 v6 v7 t_room t_going t_wanted t_lends t_borrows t_worth t_chosen t_reach t_via hd
set_option maxHeartbeats 8000000 in
set_option maxRecDepth 100000 in
theorem lb_X2_gainWithLimit_1 (l : Launch) (G : jG) (a_t : Nat) (a_t_borrows : Nat) (a_t_lends : Nat) (a_t_reach : Nat) (a_t_room : Nat) (a_t_via : Nat) (a_t_wanted : Nat) (a_t_worth : Nat) (a_p1 : Nat) (a_p1_borrower : Nat) (a_p1_borrowerGain : Nat) (a_p1_byYear : Nat) (a_p1_either : Nat) (a_p1_lender : Nat) (a_p1_lenderGain : Nat) (a_p1_limit : Nat) (a_p1_year : Nat) (p1_persons : Int32) (p1_deals : Int32) (p1_lawYears : Int32) (p1_toldParts : Int32) (a_p1_personNames : Nat) (a_p1_born : Nat) (a_p1_dies : Nat) (a_p1_dealNames : Nat) (a_p1_memo : Nat) (p1_borrower : Nat → Int32) (p1_borrowerGain : Nat → Int32) (p1_byYear : Nat → Int32) (p1_either : Nat → Int32) (p1_lender : Nat → Int32) (p1_lenderGain : Nat → Int32) (p1_limit : Nat → Int32) (p1_year : Nat → Int32) (p2 : Int32) (p3 : Int32) (p4 : Int32) (X : jX) (C : jC X l G 8 rm_X2_gainWithLimit cX2_gainWithLimit RX2 wsX2_gainWithLimit) (r : Int32 × (Nat → Int32) × Int32 × (Nat → Int32) × (Nat → Int32) × (Nat → Int32) × (Nat → Int32) × Int32 × (Nat → Int32) × (Nat → Int32)) (hE : jE X (some .int) (some (.int r.1)) (wd_X2_gainWithLimit G a_t a_t_borrows a_t_lends a_t_reach a_t_room a_t_via a_t_wanted a_t_worth a_p1 a_p1_borrower a_p1_borrowerGain a_p1_byYear a_p1_either a_p1_lender a_p1_lenderGain a_p1_limit a_p1_year r.2.2.1 r.2.2.2.2.2.2.2.1 r.2.2.2.2.2.1 r.2.2.2.2.1 r.2.2.2.2.2.2.2.2.1 r.2.1 r.2.2.2.2.2.2.2.2.2 r.2.2.2.1 r.2.2.2.2.2.2.1 p1_persons p1_deals p1_lawYears p1_toldParts a_p1_personNames a_p1_born a_p1_dies a_p1_dealNames a_p1_memo p1_borrower p1_borrowerGain p1_byYear p1_either p1_lender p1_lenderGain p1_limit p1_year)) (n : Nat) (IH2 : ∀ (v5 : Int32) (v6 : Int32) (v7 : Int32) (t_room : Nat → Int32) (t_going : Int32) (t_wanted : Nat → Int32) (t_lends : Nat → Int32) (t_borrows : Nat → Int32) (t_worth : Nat → Int32) (t_chosen : Int32) (t_reach : Nat → Int32) (t_via : Nat → Int32), lpN (st_X2_gainWithLimit p1_persons p1_deals p1_borrower p1_borrowerGain p1_byYear p1_either p1_lender p1_lenderGain p1_limit p1_year p2 p3 p4) n (.inr (.inr ((v5, v6, v7, t_room, t_going, t_wanted, t_lends, t_borrows, t_worth, t_chosen, t_reach, t_via)))) = some r → J X 0 0 (wd_X2_gainWithLimit G a_t a_t_borrows a_t_lends a_t_reach a_t_room a_t_via a_t_wanted a_t_worth a_p1 a_p1_borrower a_p1_borrowerGain a_p1_byYear a_p1_either a_p1_lender a_p1_lenderGain a_p1_limit a_p1_year t_going t_chosen t_borrows t_lends t_reach t_room t_via t_wanted t_worth p1_persons p1_deals p1_lawYears p1_toldParts a_p1_personNames a_p1_born a_p1_dies a_p1_dealNames a_p1_memo p1_borrower p1_borrowerGain p1_byYear p1_either p1_lender p1_lenderGain p1_limit p1_year) [(0, .ref a_t), (1, .ref a_p1), (2, .int p2), (3, .int p3), (4, .int p4), (5, .int v5), (6, .int v6), (7, .int v7)] 82 []) (v5 : Int32) (v6 : Int32) (v7 : Int32) (t_room : Nat → Int32) (t_going : Int32) (t_wanted : Nat → Int32) (t_lends : Nat → Int32) (t_borrows : Nat → Int32) (t_worth : Nat → Int32) (t_chosen : Int32) (t_reach : Nat → Int32) (t_via : Nat → Int32) (hd : lpR (st_X2_gainWithLimit p1_persons p1_deals p1_borrower p1_borrowerGain p1_byYear p1_either p1_lender p1_lenderGain p1_limit p1_year p2 p3 p4) n (bd_X2_gainWithLimit_1 p1_persons p1_deals p1_borrower p1_borrowerGain p1_byYear p1_either p1_lender p1_lenderGain p1_limit p1_year p2 p3 p4 v5 v6 v7 t_room t_going t_wanted t_lends t_borrows t_worth t_chosen t_reach t_via) = some r) : J X 0 0 (wd_X2_gainWithLimit G a_t a_t_borrows a_t_lends a_t_reach a_t_room a_t_via a_t_wanted a_t_worth a_p1 a_p1_borrower a_p1_borrowerGain a_p1_byYear a_p1_either a_p1_lender a_p1_lenderGain a_p1_limit a_p1_year t_going t_chosen t_borrows t_lends t_reach t_room t_via t_wanted t_worth p1_persons p1_deals p1_lawYears p1_toldParts a_p1_personNames a_p1_born a_p1_dies a_p1_dealNames a_p1_memo p1_borrower p1_borrowerGain p1_byYear p1_either p1_lender p1_lenderGain p1_limit p1_year) [(0, .ref a_t), (1, .ref a_p1), (2, .int p2), (3, .int p3), (4, .int p4), (5, .int v5), (6, .int v6), (7, .int v7)] 54 [] := by
  unfold bd_X2_gainWithLimit_1 at hd
  refine j_aload_n (pc := 54) C dX2_gainWithLimit_54 rfl 1 rfl ?_
  refine j_get (pc := 55) (q0 := 8) (ci := 10) (kf := 7) C dX2_gainWithLimit_55 in_X2_gainWithLimit_X10 rfl (by decide) fl_X2_gainWithLimit_64 rfl rfl ?_
  refine j_iconst (pc := 58) (v := 0) C dX2_gainWithLimit_58 jk_I0 ?_
  refine j_aload_n (pc := 59) C dX2_gainWithLimit_59 rfl 0 rfl ?_
  refine j_get (pc := 60) (q0 := 0) (ci := 2) (kf := 4) C dX2_gainWithLimit_60 in_X2_gainWithLimit_X2 rfl (by decide) fl_X2_gainWithLimit_24 rfl rfl ?_
  refine j_iconst (pc := 63) (v := 0) C dX2_gainWithLimit_63 jk_I0 ?_
  refine j_bipush (pc := 64) (v := 10) C dX2_gainWithLimit_64 jk_B10 ?_
  refine j_copyi (pc := 66) (q0 := 15) (q1 := 4) (ws2 := wd_X2_gainWithLimit G a_t a_t_borrows a_t_lends a_t_reach a_t_room a_t_via a_t_wanted a_t_worth a_p1 a_p1_borrower a_p1_borrowerGain a_p1_byYear a_p1_either a_p1_lender a_p1_lenderGain a_p1_limit a_p1_year t_going t_chosen t_borrows t_lends t_reach (va_cpy p1_limit t_room (0 : Int32).toNatClampNeg (0 : Int32).toNatClampNeg (10 : Int32).toNatClampNeg) t_via t_wanted t_worth p1_persons p1_deals p1_lawYears p1_toldParts a_p1_personNames a_p1_born a_p1_dies a_p1_dealNames a_p1_memo p1_borrower p1_borrowerGain p1_byYear p1_either p1_lender p1_lenderGain p1_limit p1_year) C dX2_gainWithLimit_66 (List.mem_of_getElem? (i := 6) rfl) (List.mem_of_getElem? (i := 7) rfl) (List.mem_of_getElem? (i := 8) rfl) (List.mem_of_getElem? (i := 9) rfl) rfl rfl (by decide) (by decide) (by decide) (by decide) (by decide) (by decide) (Nat.le_of_ble_eq_true rfl) rfl ?_
  refine j_iload_n (pc := 69) C dX2_gainWithLimit_69 rfl 3 rfl ?_
  refine j_iconst (pc := 70) (v := (-1)) C dX2_gainWithLimit_70 jk_Im1 ?_
  refine j_icmp_eq (pc := 71) (tgt := 82) C dX2_gainWithLimit_71 (by decide) (fun c8 => ?_) (fun c8 => ?_)
  · have hd := lp_pos c8 hd
    refine j_sub (lv2 := [(0, .ref a_t), (1, .ref a_p1), (2, .int p2), (3, .int p3), (4, .int p4), (5, .int v5), (6, .int v6), (7, .int v7)]) [0, 1, 2, 3, 4, 5, 6, 7] rfl ?_
    exact IH2 v5 v6 v7 (va_cpy p1_limit t_room (0 : Int32).toNatClampNeg (0 : Int32).toNatClampNeg (10 : Int32).toNatClampNeg) t_going t_wanted t_lends t_borrows t_worth t_chosen t_reach t_via hd
  · have hd := lp_neg c8 hd
    refine j_aload_n (pc := 74) C dX2_gainWithLimit_74 rfl 0 rfl ?_
    refine j_get (pc := 75) (q0 := 0) (ci := 2) (kf := 4) C dX2_gainWithLimit_75 in_X2_gainWithLimit_X2 rfl (by decide) fl_X2_gainWithLimit_24 rfl rfl ?_
    refine j_iload_n (pc := 78) C dX2_gainWithLimit_78 rfl 3 rfl ?_
    refine j_iload (pc := 79) C dX2_gainWithLimit_79 4 rfl ?_
    obtain ⟨h9, hd⟩ := lp_chk hd
    refine j_iast (pc := 81) (q0 := 4) (ws2 := wd_X2_gainWithLimit G a_t a_t_borrows a_t_lends a_t_reach a_t_room a_t_via a_t_wanted a_t_worth a_p1 a_p1_borrower a_p1_borrowerGain a_p1_byYear a_p1_either a_p1_lender a_p1_lenderGain a_p1_limit a_p1_year t_going t_chosen t_borrows t_lends t_reach (upd (va_cpy p1_limit t_room (0 : Int32).toNatClampNeg (0 : Int32).toNatClampNeg (10 : Int32).toNatClampNeg) (p3).toNatClampNeg p4) t_via t_wanted t_worth p1_persons p1_deals p1_lawYears p1_toldParts a_p1_personNames a_p1_born a_p1_dies a_p1_dealNames a_p1_memo p1_borrower p1_borrowerGain p1_byYear p1_either p1_lender p1_lenderGain p1_limit p1_year) C dX2_gainWithLimit_81 rfl h9 rfl ?_
    refine j_sub (lv2 := [(0, .ref a_t), (1, .ref a_p1), (2, .int p2), (3, .int p3), (4, .int p4), (5, .int v5), (6, .int v6), (7, .int v7)]) [0, 1, 2, 3, 4, 5, 6, 7] rfl ?_
    exact IH2 v5 v6 v7 (upd (va_cpy p1_limit t_room (0 : Int32).toNatClampNeg (0 : Int32).toNatClampNeg (10 : Int32).toNatClampNeg) (p3).toNatClampNeg p4) t_going t_wanted t_lends t_borrows t_worth t_chosen t_reach t_via hd
set_option maxHeartbeats 8000000 in
set_option maxRecDepth 100000 in
theorem lb_X2_gainWithLimit_2 (l : Launch) (G : jG) (a_t : Nat) (a_t_borrows : Nat) (a_t_lends : Nat) (a_t_reach : Nat) (a_t_room : Nat) (a_t_via : Nat) (a_t_wanted : Nat) (a_t_worth : Nat) (a_p1 : Nat) (a_p1_borrower : Nat) (a_p1_borrowerGain : Nat) (a_p1_byYear : Nat) (a_p1_either : Nat) (a_p1_lender : Nat) (a_p1_lenderGain : Nat) (a_p1_limit : Nat) (a_p1_year : Nat) (p1_persons : Int32) (p1_deals : Int32) (p1_lawYears : Int32) (p1_toldParts : Int32) (a_p1_personNames : Nat) (a_p1_born : Nat) (a_p1_dies : Nat) (a_p1_dealNames : Nat) (a_p1_memo : Nat) (p1_borrower : Nat → Int32) (p1_borrowerGain : Nat → Int32) (p1_byYear : Nat → Int32) (p1_either : Nat → Int32) (p1_lender : Nat → Int32) (p1_lenderGain : Nat → Int32) (p1_limit : Nat → Int32) (p1_year : Nat → Int32) (p2 : Int32) (p3 : Int32) (p4 : Int32) (X : jX) (C : jC X l G 8 rm_X2_gainWithLimit cX2_gainWithLimit RX2 wsX2_gainWithLimit) (r : Int32 × (Nat → Int32) × Int32 × (Nat → Int32) × (Nat → Int32) × (Nat → Int32) × (Nat → Int32) × Int32 × (Nat → Int32) × (Nat → Int32)) (hE : jE X (some .int) (some (.int r.1)) (wd_X2_gainWithLimit G a_t a_t_borrows a_t_lends a_t_reach a_t_room a_t_via a_t_wanted a_t_worth a_p1 a_p1_borrower a_p1_borrowerGain a_p1_byYear a_p1_either a_p1_lender a_p1_lenderGain a_p1_limit a_p1_year r.2.2.1 r.2.2.2.2.2.2.2.1 r.2.2.2.2.2.1 r.2.2.2.2.1 r.2.2.2.2.2.2.2.2.1 r.2.1 r.2.2.2.2.2.2.2.2.2 r.2.2.2.1 r.2.2.2.2.2.2.1 p1_persons p1_deals p1_lawYears p1_toldParts a_p1_personNames a_p1_born a_p1_dies a_p1_dealNames a_p1_memo p1_borrower p1_borrowerGain p1_byYear p1_either p1_lender p1_lenderGain p1_limit p1_year)) (n : Nat) (IH0 : ∀ (v5 : Int32) (v6 : Int32) (v7 : Int32) (t_room : Nat → Int32) (t_going : Int32) (t_wanted : Nat → Int32) (t_lends : Nat → Int32) (t_borrows : Nat → Int32) (t_worth : Nat → Int32) (t_chosen : Int32) (t_reach : Nat → Int32) (t_via : Nat → Int32), lpN (st_X2_gainWithLimit p1_persons p1_deals p1_borrower p1_borrowerGain p1_byYear p1_either p1_lender p1_lenderGain p1_limit p1_year p2 p3 p4) n (.inl (v5, v6, v7, t_room, t_going, t_wanted, t_lends, t_borrows, t_worth, t_chosen, t_reach, t_via)) = some r → J X 0 0 (wd_X2_gainWithLimit G a_t a_t_borrows a_t_lends a_t_reach a_t_room a_t_via a_t_wanted a_t_worth a_p1 a_p1_borrower a_p1_borrowerGain a_p1_byYear a_p1_either a_p1_lender a_p1_lenderGain a_p1_limit a_p1_year t_going t_chosen t_borrows t_lends t_reach t_room t_via t_wanted t_worth p1_persons p1_deals p1_lawYears p1_toldParts a_p1_personNames a_p1_born a_p1_dies a_p1_dealNames a_p1_memo p1_borrower p1_borrowerGain p1_byYear p1_either p1_lender p1_lenderGain p1_limit p1_year) [(0, .ref a_t), (1, .ref a_p1), (2, .int p2), (3, .int p3), (4, .int p4), (5, .int v5), (6, .int v6), (7, .int v7)] 9 []) (v5 : Int32) (v6 : Int32) (v7 : Int32) (t_room : Nat → Int32) (t_going : Int32) (t_wanted : Nat → Int32) (t_lends : Nat → Int32) (t_borrows : Nat → Int32) (t_worth : Nat → Int32) (t_chosen : Int32) (t_reach : Nat → Int32) (t_via : Nat → Int32) (hd : lpR (st_X2_gainWithLimit p1_persons p1_deals p1_borrower p1_borrowerGain p1_byYear p1_either p1_lender p1_lenderGain p1_limit p1_year p2 p3 p4) n (bd_X2_gainWithLimit_2 p1_persons p1_deals p1_borrower p1_borrowerGain p1_byYear p1_either p1_lender p1_lenderGain p1_limit p1_year p2 p3 p4 v5 v6 v7 t_room t_going t_wanted t_lends t_borrows t_worth t_chosen t_reach t_via) = some r) : J X 0 0 (wd_X2_gainWithLimit G a_t a_t_borrows a_t_lends a_t_reach a_t_room a_t_via a_t_wanted a_t_worth a_p1 a_p1_borrower a_p1_borrowerGain a_p1_byYear a_p1_either a_p1_lender a_p1_lenderGain a_p1_limit a_p1_year t_going t_chosen t_borrows t_lends t_reach t_room t_via t_wanted t_worth p1_persons p1_deals p1_lawYears p1_toldParts a_p1_personNames a_p1_born a_p1_dies a_p1_dealNames a_p1_memo p1_borrower p1_borrowerGain p1_byYear p1_either p1_lender p1_lenderGain p1_limit p1_year) [(0, .ref a_t), (1, .ref a_p1), (2, .int p2), (3, .int p3), (4, .int p4), (5, .int v5), (6, .int v6), (7, .int v7)] 82 [] := by
  unfold bd_X2_gainWithLimit_2 at hd
  refine j_aload_n (pc := 82) C dX2_gainWithLimit_82 rfl 0 rfl ?_
  refine j_aload_n (pc := 83) C dX2_gainWithLimit_83 rfl 1 rfl ?_
  refine j_iload_n (pc := 84) C dX2_gainWithLimit_84 rfl 2 rfl ?_
  refine j_iload (pc := 85) C dX2_gainWithLimit_85 6 rfl ?_
  refine j_iload (pc := 87) C dX2_gainWithLimit_87 7 rfl ?_
  obtain ⟨q10, eq10, hd⟩ := lp_bind hd
  refine j_callV (pc := 89) (q0 := 0) (ci := 2) (As := [.ref a_p1, .int p2, .int v6, .int v7]) (rest := []) (st2 := []) (ws2 := wd_X2_gainWithLimit G a_t a_t_borrows a_t_lends a_t_reach a_t_room a_t_via a_t_wanted a_t_worth a_p1 a_p1_borrower a_p1_borrowerGain a_p1_byYear a_p1_either a_p1_lender a_p1_lenderGain a_p1_limit a_p1_year q10.1 t_chosen q10.2.2.2.1 q10.2.2.1 t_reach t_room t_via q10.2.1 q10.2.2.2.2 p1_persons p1_deals p1_lawYears p1_toldParts a_p1_personNames a_p1_born a_p1_dies a_p1_dealNames a_p1_memo p1_borrower p1_borrowerGain p1_byYear p1_either p1_lender p1_lenderGain p1_limit p1_year) C (ct_X2_gather l G a_t a_t_borrows a_t_lends a_t_wanted a_t_worth a_p1 a_p1_borrower a_p1_borrowerGain a_p1_byYear a_p1_either a_p1_lender a_p1_lenderGain a_t_room a_t_reach a_t_via t_going t_chosen t_borrows t_lends t_wanted t_worth p1_persons p1_deals p1_lawYears p1_toldParts a_p1_personNames a_p1_born a_p1_dies a_p1_limit a_p1_dealNames a_p1_year a_p1_memo p1_borrower p1_borrowerGain p1_byYear p1_either p1_lender p1_lenderGain p2 v6 v7 q10 eq10) jy_X2_gather dX2_gainWithLimit_89 gX2_gainWithLimit_X2_gather rfl rfl (by decide) ⟨Nat.zero_le _, Nat.zero_le _⟩ [0, 1, 2, 6, 7, 8, 9, 10, 11, 12, 13, 14] rfl rfl (jpt_eq rfl rfl rfl) rfl rfl rfl (Nat.le_of_ble_eq_true rfl) rfl ?_
  refine j_iload (pc := 92) C dX2_gainWithLimit_92 5 rfl ?_
  refine j_aload_n (pc := 94) C dX2_gainWithLimit_94 rfl 0 rfl ?_
  refine j_aload_n (pc := 95) C dX2_gainWithLimit_95 rfl 1 rfl ?_
  refine j_get (pc := 96) (q0 := 8) (ci := 10) (kf := 0) C dX2_gainWithLimit_96 in_X2_gainWithLimit_X10 rfl (by decide) fl_X2_gainWithLimit_77 rfl rfl ?_
  refine j_iload_n (pc := 99) C dX2_gainWithLimit_99 rfl 2 rfl ?_
  obtain ⟨q11, eq11, hd⟩ := lp_bind hd
  refine j_callV (pc := 100) (q0 := 0) (ci := 2) (As := [.int p1_persons, .int p2]) (rest := [.int v5]) (st2 := [.int q11.1, .int v5]) (ws2 := wd_X2_gainWithLimit G a_t a_t_borrows a_t_lends a_t_reach a_t_room a_t_via a_t_wanted a_t_worth a_p1 a_p1_borrower a_p1_borrowerGain a_p1_byYear a_p1_either a_p1_lender a_p1_lenderGain a_p1_limit a_p1_year q10.1 q11.2.1 q10.2.2.2.1 q10.2.2.1 q11.2.2.1 q11.2.2.2.2 q11.2.2.2.1 q10.2.1 q10.2.2.2.2 p1_persons p1_deals p1_lawYears p1_toldParts a_p1_personNames a_p1_born a_p1_dies a_p1_dealNames a_p1_memo p1_borrower p1_borrowerGain p1_byYear p1_either p1_lender p1_lenderGain p1_limit p1_year) C (ct_X2_gainOfYear l G a_t a_t_borrows a_t_lends a_t_reach a_t_room a_t_via a_t_wanted a_t_worth q10.1 t_chosen q10.2.2.2.1 q10.2.2.1 t_reach t_room t_via q10.2.1 q10.2.2.2.2 p1_persons p2 q11 eq11) jy_X2_gainOfYear dX2_gainWithLimit_100 gX2_gainWithLimit_X2_gainOfYear rfl rfl (by decide) ⟨Nat.zero_le _, Nat.zero_le _⟩ [0, 1, 2, 3, 4, 5, 6, 7] rfl rfl (jpt_eq rfl rfl rfl) rfl rfl rfl (Nat.le_of_ble_eq_true rfl) rfl ?_
  refine j_iadd (pc := 103) C dX2_gainWithLimit_103 ?_
  refine j_istore (pc := 104) (lv2 := [(0, .ref a_t), (1, .ref a_p1), (2, .int p2), (3, .int p3), (4, .int p4), (5, .int (v5 + q11.1)), (7, .int v7)]) C dX2_gainWithLimit_104 (by decide) [1, 2, 3, 4, 5, 0, 7] rfl ?_
  refine j_iload (pc := 106) C dX2_gainWithLimit_106 6 rfl ?_
  refine j_istore (pc := 108) (lv2 := [(0, .ref a_t), (1, .ref a_p1), (2, .int p2), (3, .int p3), (4, .int p4), (5, .int (v5 + q11.1)), (6, .int v7), (7, .int v7)]) C dX2_gainWithLimit_108 (by decide) [1, 2, 3, 4, 5, 6, 0, 7] rfl ?_
  refine j_iinc (pc := 110) (lv2 := [(0, .ref a_t), (1, .ref a_p1), (2, .int p2), (3, .int p3), (4, .int p4), (5, .int (v5 + q11.1)), (6, .int v7), (7, .int (v7 + 1))]) C dX2_gainWithLimit_110 jk_I1 (by decide) 7 rfl [1, 2, 3, 4, 5, 6, 7, 0] rfl ?_
  refine j_goto (pc := 113) (tgt := 9) C dX2_gainWithLimit_113 (by decide) ?_
  refine j_sub (lv2 := [(0, .ref a_t), (1, .ref a_p1), (2, .int p2), (3, .int p3), (4, .int p4), (5, .int (v5 + q11.1)), (6, .int v7), (7, .int (v7 + 1))]) [0, 1, 2, 3, 4, 5, 6, 7] rfl ?_
  exact IH0 (v5 + q11.1) v7 (v7 + 1) q11.2.2.2.2 q10.1 q10.2.1 q10.2.2.1 q10.2.2.2.1 q10.2.2.2.2 q11.2.1 q11.2.2.1 q11.2.2.2.1 hd
set_option maxHeartbeats 8000000 in
set_option maxRecDepth 100000 in
theorem la_X2_gainWithLimit (l : Launch) (G : jG) (a_t : Nat) (a_t_borrows : Nat) (a_t_lends : Nat) (a_t_reach : Nat) (a_t_room : Nat) (a_t_via : Nat) (a_t_wanted : Nat) (a_t_worth : Nat) (a_p1 : Nat) (a_p1_borrower : Nat) (a_p1_borrowerGain : Nat) (a_p1_byYear : Nat) (a_p1_either : Nat) (a_p1_lender : Nat) (a_p1_lenderGain : Nat) (a_p1_limit : Nat) (a_p1_year : Nat) (p1_persons : Int32) (p1_deals : Int32) (p1_lawYears : Int32) (p1_toldParts : Int32) (a_p1_personNames : Nat) (a_p1_born : Nat) (a_p1_dies : Nat) (a_p1_dealNames : Nat) (a_p1_memo : Nat) (p1_borrower : Nat → Int32) (p1_borrowerGain : Nat → Int32) (p1_byYear : Nat → Int32) (p1_either : Nat → Int32) (p1_lender : Nat → Int32) (p1_lenderGain : Nat → Int32) (p1_limit : Nat → Int32) (p1_year : Nat → Int32) (p2 : Int32) (p3 : Int32) (p4 : Int32) (X : jX) (C : jC X l G 8 rm_X2_gainWithLimit cX2_gainWithLimit RX2 wsX2_gainWithLimit) (r : Int32 × (Nat → Int32) × Int32 × (Nat → Int32) × (Nat → Int32) × (Nat → Int32) × (Nat → Int32) × Int32 × (Nat → Int32) × (Nat → Int32)) (hE : jE X (some .int) (some (.int r.1)) (wd_X2_gainWithLimit G a_t a_t_borrows a_t_lends a_t_reach a_t_room a_t_via a_t_wanted a_t_worth a_p1 a_p1_borrower a_p1_borrowerGain a_p1_byYear a_p1_either a_p1_lender a_p1_lenderGain a_p1_limit a_p1_year r.2.2.1 r.2.2.2.2.2.2.2.1 r.2.2.2.2.2.1 r.2.2.2.2.1 r.2.2.2.2.2.2.2.2.1 r.2.1 r.2.2.2.2.2.2.2.2.2 r.2.2.2.1 r.2.2.2.2.2.2.1 p1_persons p1_deals p1_lawYears p1_toldParts a_p1_personNames a_p1_born a_p1_dies a_p1_dealNames a_p1_memo p1_borrower p1_borrowerGain p1_byYear p1_either p1_lender p1_lenderGain p1_limit p1_year)) (n : Nat) : (∀ (v5 : Int32) (v6 : Int32) (v7 : Int32) (t_room : Nat → Int32) (t_going : Int32) (t_wanted : Nat → Int32) (t_lends : Nat → Int32) (t_borrows : Nat → Int32) (t_worth : Nat → Int32) (t_chosen : Int32) (t_reach : Nat → Int32) (t_via : Nat → Int32), lpN (st_X2_gainWithLimit p1_persons p1_deals p1_borrower p1_borrowerGain p1_byYear p1_either p1_lender p1_lenderGain p1_limit p1_year p2 p3 p4) n (.inl (v5, v6, v7, t_room, t_going, t_wanted, t_lends, t_borrows, t_worth, t_chosen, t_reach, t_via)) = some r → J X 0 0 (wd_X2_gainWithLimit G a_t a_t_borrows a_t_lends a_t_reach a_t_room a_t_via a_t_wanted a_t_worth a_p1 a_p1_borrower a_p1_borrowerGain a_p1_byYear a_p1_either a_p1_lender a_p1_lenderGain a_p1_limit a_p1_year t_going t_chosen t_borrows t_lends t_reach t_room t_via t_wanted t_worth p1_persons p1_deals p1_lawYears p1_toldParts a_p1_personNames a_p1_born a_p1_dies a_p1_dealNames a_p1_memo p1_borrower p1_borrowerGain p1_byYear p1_either p1_lender p1_lenderGain p1_limit p1_year) [(0, .ref a_t), (1, .ref a_p1), (2, .int p2), (3, .int p3), (4, .int p4), (5, .int v5), (6, .int v6), (7, .int v7)] 9 []) ∧ (∀ (v5 : Int32) (v6 : Int32) (v7 : Int32) (t_room : Nat → Int32) (t_going : Int32) (t_wanted : Nat → Int32) (t_lends : Nat → Int32) (t_borrows : Nat → Int32) (t_worth : Nat → Int32) (t_chosen : Int32) (t_reach : Nat → Int32) (t_via : Nat → Int32), lpN (st_X2_gainWithLimit p1_persons p1_deals p1_borrower p1_borrowerGain p1_byYear p1_either p1_lender p1_lenderGain p1_limit p1_year p2 p3 p4) n (.inr (.inl (v5, v6, v7, t_room, t_going, t_wanted, t_lends, t_borrows, t_worth, t_chosen, t_reach, t_via))) = some r → J X 0 0 (wd_X2_gainWithLimit G a_t a_t_borrows a_t_lends a_t_reach a_t_room a_t_via a_t_wanted a_t_worth a_p1 a_p1_borrower a_p1_borrowerGain a_p1_byYear a_p1_either a_p1_lender a_p1_lenderGain a_p1_limit a_p1_year t_going t_chosen t_borrows t_lends t_reach t_room t_via t_wanted t_worth p1_persons p1_deals p1_lawYears p1_toldParts a_p1_personNames a_p1_born a_p1_dies a_p1_dealNames a_p1_memo p1_borrower p1_borrowerGain p1_byYear p1_either p1_lender p1_lenderGain p1_limit p1_year) [(0, .ref a_t), (1, .ref a_p1), (2, .int p2), (3, .int p3), (4, .int p4), (5, .int v5), (6, .int v6), (7, .int v7)] 54 []) ∧ (∀ (v5 : Int32) (v6 : Int32) (v7 : Int32) (t_room : Nat → Int32) (t_going : Int32) (t_wanted : Nat → Int32) (t_lends : Nat → Int32) (t_borrows : Nat → Int32) (t_worth : Nat → Int32) (t_chosen : Int32) (t_reach : Nat → Int32) (t_via : Nat → Int32), lpN (st_X2_gainWithLimit p1_persons p1_deals p1_borrower p1_borrowerGain p1_byYear p1_either p1_lender p1_lenderGain p1_limit p1_year p2 p3 p4) n (.inr (.inr ((v5, v6, v7, t_room, t_going, t_wanted, t_lends, t_borrows, t_worth, t_chosen, t_reach, t_via)))) = some r → J X 0 0 (wd_X2_gainWithLimit G a_t a_t_borrows a_t_lends a_t_reach a_t_room a_t_via a_t_wanted a_t_worth a_p1 a_p1_borrower a_p1_borrowerGain a_p1_byYear a_p1_either a_p1_lender a_p1_lenderGain a_p1_limit a_p1_year t_going t_chosen t_borrows t_lends t_reach t_room t_via t_wanted t_worth p1_persons p1_deals p1_lawYears p1_toldParts a_p1_personNames a_p1_born a_p1_dies a_p1_dealNames a_p1_memo p1_borrower p1_borrowerGain p1_byYear p1_either p1_lender p1_lenderGain p1_limit p1_year) [(0, .ref a_t), (1, .ref a_p1), (2, .int p2), (3, .int p3), (4, .int p4), (5, .int v5), (6, .int v6), (7, .int v7)] 82 []) := by
  induction n with
  | zero => exact ⟨(fun v5 v6 v7 t_room t_going t_wanted t_lends t_borrows t_worth t_chosen t_reach t_via h => by cases h), (fun v5 v6 v7 t_room t_going t_wanted t_lends t_borrows t_worth t_chosen t_reach t_via h => by cases h), (fun v5 v6 v7 t_room t_going t_wanted t_lends t_borrows t_worth t_chosen t_reach t_via h => by cases h)⟩
  | succ n ih => exact ⟨(fun v5 v6 v7 t_room t_going t_wanted t_lends t_borrows t_worth t_chosen t_reach t_via h => lb_X2_gainWithLimit_0 l G a_t a_t_borrows a_t_lends a_t_reach a_t_room a_t_via a_t_wanted a_t_worth a_p1 a_p1_borrower a_p1_borrowerGain a_p1_byYear a_p1_either a_p1_lender a_p1_lenderGain a_p1_limit a_p1_year p1_persons p1_deals p1_lawYears p1_toldParts a_p1_personNames a_p1_born a_p1_dies a_p1_dealNames a_p1_memo p1_borrower p1_borrowerGain p1_byYear p1_either p1_lender p1_lenderGain p1_limit p1_year p2 p3 p4 X C r hE n (ih.1) (ih.2.1) v5 v6 v7 t_room t_going t_wanted t_lends t_borrows t_worth t_chosen t_reach t_via (by rw [lpN_succ] at h; exact h)), (fun v5 v6 v7 t_room t_going t_wanted t_lends t_borrows t_worth t_chosen t_reach t_via h => lb_X2_gainWithLimit_1 l G a_t a_t_borrows a_t_lends a_t_reach a_t_room a_t_via a_t_wanted a_t_worth a_p1 a_p1_borrower a_p1_borrowerGain a_p1_byYear a_p1_either a_p1_lender a_p1_lenderGain a_p1_limit a_p1_year p1_persons p1_deals p1_lawYears p1_toldParts a_p1_personNames a_p1_born a_p1_dies a_p1_dealNames a_p1_memo p1_borrower p1_borrowerGain p1_byYear p1_either p1_lender p1_lenderGain p1_limit p1_year p2 p3 p4 X C r hE n (ih.2.2) v5 v6 v7 t_room t_going t_wanted t_lends t_borrows t_worth t_chosen t_reach t_via (by rw [lpN_succ] at h; exact h)), (fun v5 v6 v7 t_room t_going t_wanted t_lends t_borrows t_worth t_chosen t_reach t_via h => lb_X2_gainWithLimit_2 l G a_t a_t_borrows a_t_lends a_t_reach a_t_room a_t_via a_t_wanted a_t_worth a_p1 a_p1_borrower a_p1_borrowerGain a_p1_byYear a_p1_either a_p1_lender a_p1_lenderGain a_p1_limit a_p1_year p1_persons p1_deals p1_lawYears p1_toldParts a_p1_personNames a_p1_born a_p1_dies a_p1_dealNames a_p1_memo p1_borrower p1_borrowerGain p1_byYear p1_either p1_lender p1_lenderGain p1_limit p1_year p2 p3 p4 X C r hE n (ih.1) v5 v6 v7 t_room t_going t_wanted t_lends t_borrows t_worth t_chosen t_reach t_via (by rw [lpN_succ] at h; exact h))⟩
set_option maxHeartbeats 8000000 in
set_option maxRecDepth 100000 in
theorem ct_X2_gainWithLimit (l : Launch) (G : jG) (a_t : Nat) (a_t_borrows : Nat) (a_t_lends : Nat) (a_t_reach : Nat) (a_t_room : Nat) (a_t_via : Nat) (a_t_wanted : Nat) (a_t_worth : Nat) (a_p1 : Nat) (a_p1_borrower : Nat) (a_p1_borrowerGain : Nat) (a_p1_byYear : Nat) (a_p1_either : Nat) (a_p1_lender : Nat) (a_p1_lenderGain : Nat) (a_p1_limit : Nat) (a_p1_year : Nat) (t_going : Int32) (t_chosen : Int32) (t_borrows : Nat → Int32) (t_lends : Nat → Int32) (t_reach : Nat → Int32) (t_room : Nat → Int32) (t_via : Nat → Int32) (t_wanted : Nat → Int32) (t_worth : Nat → Int32) (p1_persons : Int32) (p1_deals : Int32) (p1_lawYears : Int32) (p1_toldParts : Int32) (a_p1_personNames : Nat) (a_p1_born : Nat) (a_p1_dies : Nat) (a_p1_dealNames : Nat) (a_p1_memo : Nat) (p1_borrower : Nat → Int32) (p1_borrowerGain : Nat → Int32) (p1_byYear : Nat → Int32) (p1_either : Nat → Int32) (p1_lender : Nat → Int32) (p1_lenderGain : Nat → Int32) (p1_limit : Nat → Int32) (p1_year : Nat → Int32) (p2 : Int32) (p3 : Int32) (p4 : Int32) (r : Int32 × (Nat → Int32) × Int32 × (Nat → Int32) × (Nat → Int32) × (Nat → Int32) × (Nat → Int32) × Int32 × (Nat → Int32) × (Nat → Int32)) (hd : dn_X2_gainWithLimit t_going t_chosen t_borrows t_lends t_reach t_room t_via t_wanted t_worth p1_persons p1_deals p1_borrower p1_borrowerGain p1_byYear p1_either p1_lender p1_lenderGain p1_limit p1_year p2 p3 p4 = some r) : jM l G yX2_gainWithLimit wsX2_gainWithLimit rm_X2_gainWithLimit [.ref a_t, .ref a_p1, .int p2, .int p3, .int p4] (wd_X2_gainWithLimit G a_t a_t_borrows a_t_lends a_t_reach a_t_room a_t_via a_t_wanted a_t_worth a_p1 a_p1_borrower a_p1_borrowerGain a_p1_byYear a_p1_either a_p1_lender a_p1_lenderGain a_p1_limit a_p1_year t_going t_chosen t_borrows t_lends t_reach t_room t_via t_wanted t_worth p1_persons p1_deals p1_lawYears p1_toldParts a_p1_personNames a_p1_born a_p1_dies a_p1_dealNames a_p1_memo p1_borrower p1_borrowerGain p1_byYear p1_either p1_lender p1_lenderGain p1_limit p1_year) (some (.int r.1)) (wd_X2_gainWithLimit G a_t a_t_borrows a_t_lends a_t_reach a_t_room a_t_via a_t_wanted a_t_worth a_p1 a_p1_borrower a_p1_borrowerGain a_p1_byYear a_p1_either a_p1_lender a_p1_lenderGain a_p1_limit a_p1_year r.2.2.1 r.2.2.2.2.2.2.2.1 r.2.2.2.2.2.1 r.2.2.2.2.1 r.2.2.2.2.2.2.2.2.1 r.2.1 r.2.2.2.2.2.2.2.2.2 r.2.2.2.1 r.2.2.2.2.2.2.1 p1_persons p1_deals p1_lawYears p1_toldParts a_p1_personNames a_p1_born a_p1_dies a_p1_dealNames a_p1_memo p1_borrower p1_borrowerGain p1_byYear p1_either p1_lender p1_lenderGain p1_limit p1_year) := by
  refine jM_of (own := RX2) (by decide) rfl rfl rfl (Nat.le_of_ble_eq_true rfl) (lv0 := [(0, .ref a_t), (1, .ref a_p1), (2, .int p2), (3, .int p3), (4, .int p4)]) rfl (fun X C hE => ?_)
  unfold dn_X2_gainWithLimit at hd
  refine j_iconst (pc := 0) (v := 0) C dX2_gainWithLimit_0 jk_I0 ?_
  refine j_istore (pc := 1) (lv2 := [(0, .ref a_t), (1, .ref a_p1), (2, .int p2), (3, .int p3), (4, .int p4), (5, .int 0)]) C dX2_gainWithLimit_1 (by decide) [1, 2, 3, 4, 5, 0] rfl ?_
  refine j_iconst (pc := 3) (v := 0) C dX2_gainWithLimit_3 jk_I0 ?_
  refine j_istore (pc := 4) (lv2 := [(0, .ref a_t), (1, .ref a_p1), (2, .int p2), (3, .int p3), (4, .int p4), (5, .int 0), (6, .int 0)]) C dX2_gainWithLimit_4 (by decide) [1, 2, 3, 4, 5, 6, 0] rfl ?_
  refine j_iconst (pc := 6) (v := 1) C dX2_gainWithLimit_6 jk_I1 ?_
  refine j_istore (pc := 7) (lv2 := [(0, .ref a_t), (1, .ref a_p1), (2, .int p2), (3, .int p3), (4, .int p4), (5, .int 0), (6, .int 0), (7, .int 1)]) C dX2_gainWithLimit_7 (by decide) [1, 2, 3, 4, 5, 6, 7, 0] rfl ?_
  refine j_sub (lv2 := [(0, .ref a_t), (1, .ref a_p1), (2, .int p2), (3, .int p3), (4, .int p4), (5, .int 0), (6, .int 0), (7, .int 1)]) [0, 1, 2, 3, 4, 5, 6, 7] rfl ?_
  obtain ⟨n, hn⟩ := lpC_ex hd
  exact (la_X2_gainWithLimit l G a_t a_t_borrows a_t_lends a_t_reach a_t_room a_t_via a_t_wanted a_t_worth a_p1 a_p1_borrower a_p1_borrowerGain a_p1_byYear a_p1_either a_p1_lender a_p1_lenderGain a_p1_limit a_p1_year p1_persons p1_deals p1_lawYears p1_toldParts a_p1_personNames a_p1_born a_p1_dies a_p1_dealNames a_p1_memo p1_borrower p1_borrowerGain p1_byYear p1_either p1_lender p1_lenderGain p1_limit p1_year p2 p3 p4 X C r hE n).1 0 0 1 t_room t_going t_wanted t_lends t_borrows t_worth t_chosen t_reach t_via hn
/-! ##### LendTown$Flow.gainOf(LLendTown$Town;I)I -/
abbrev rm_X2_gainOf : Room := { frames := 4, cells := 0, slots := 0, locals := 102 }
theorem jy_X2_gainOf : jY yX2_gainOf wsX2_gainOf rm_X2_gainOf cX2_gainOf 3 (some .int) 2 := ⟨⟨_, rfl⟩, ⟨rfl, rfl⟩, by decide, by decide, by decide +kernel⟩
theorem in_X2_gainOf_X10 : ∀ w ∈ u_ws RX10 TX10 17, w ∈ wsX2_gainOf := fun w h => List.mem_cons_of_mem _ (List.mem_append_left _ (List.mem_append_left _ (List.mem_append_right _ (h))))
theorem in_X2_gainOf_X5 : ∀ w ∈ u_ws RX5 TX5 5, w ∈ wsX2_gainOf := fun w h => List.mem_cons_of_mem _ (List.mem_append_left _ (List.mem_append_right _ (h)))
theorem fl_X2_gainOf_40 : Cond.fieldLink RX2 40 "LendTown$Town" "memo" "LLendTown$Memo;" ∈ wsX2_gainOf := List.mem_of_getElem? (i := 1) rfl
theorem fl_X2_gainOf_46 : Cond.fieldLink RX2 46 "LendTown$Memo" "gains" "[I" ∈ wsX2_gainOf := List.mem_of_getElem? (i := 2) rfl
def wd_X2_gainOf (G : jG) (a_t : Nat) (a_t_borrows : Nat) (a_t_lends : Nat) (a_t_reach : Nat) (a_t_room : Nat) (a_t_via : Nat) (a_t_wanted : Nat) (a_t_worth : Nat) (a_p1 : Nat) (a_p1_borrower : Nat) (a_p1_borrowerGain : Nat) (a_p1_byYear : Nat) (a_p1_either : Nat) (a_p1_lender : Nat) (a_p1_lenderGain : Nat) (a_p1_limit : Nat) (a_p1_memo : Nat) (a_p1_memo_gains : Nat) (a_p1_year : Nat) (t_going : Int32) (t_chosen : Int32) (t_borrows : Nat → Int32) (t_lends : Nat → Int32) (t_reach : Nat → Int32) (t_room : Nat → Int32) (t_via : Nat → Int32) (t_wanted : Nat → Int32) (t_worth : Nat → Int32) (p1_persons : Int32) (p1_deals : Int32) (p1_lawYears : Int32) (p1_toldParts : Int32) (a_p1_personNames : Nat) (a_p1_born : Nat) (a_p1_dies : Nat) (a_p1_dealNames : Nat) (p1_borrower : Nat → Int32) (p1_borrowerGain : Nat → Int32) (p1_byYear : Nat → Int32) (p1_either : Nat → Int32) (p1_lender : Nat → Int32) (p1_lenderGain : Nat → Int32) (p1_limit : Nat → Int32) (a_p1_memo_rests : Nat) (p1_memo_restCount : Int32) (a_p1_memo_lawfulWays : Nat) (p1_memo_lawfulGain : Int32) (p1_memo_gains : Nat → Int32) (p1_year : Nat → Int32) : va_W := [(a_t, .inr (2, [.ref a_t_lends, .ref a_t_borrows, .ref a_t_worth, .ref a_t_wanted, .ref a_t_room, .ref a_t_reach, .ref a_t_via, .int t_going, .int t_chosen])), (a_t_borrows, .inl (G.2.2.1, 30, .inl t_borrows)), (a_t_lends, .inl (G.2.2.1, 30, .inl t_lends)), (a_t_reach, .inl (G.2.2.1, 10, .inl t_reach)), (a_t_room, .inl (G.2.2.1, 10, .inl t_room)), (a_t_via, .inl (G.2.2.1, 10, .inl t_via)), (a_t_wanted, .inl (G.2.2.1, 10, .inl t_wanted)), (a_t_worth, .inl (G.2.2.1, 30, .inl t_worth)), (a_p1, .inr (10, [.int p1_persons, .int p1_deals, .int p1_lawYears, .int p1_toldParts, .ref a_p1_personNames, .ref a_p1_born, .ref a_p1_dies, .ref a_p1_limit, .ref a_p1_dealNames, .ref a_p1_lender, .ref a_p1_borrower, .ref a_p1_year, .ref a_p1_lenderGain, .ref a_p1_borrowerGain, .ref a_p1_either, .ref a_p1_byYear, .ref a_p1_memo])), (a_p1_borrower, .inl (G.2.2.1, 30, .inl p1_borrower)), (a_p1_borrowerGain, .inl (G.2.2.1, 30, .inl p1_borrowerGain)), (a_p1_byYear, .inl (G.2.2.1, 30, .inl p1_byYear)), (a_p1_either, .inl (G.2.2.1, 30, .inl p1_either)), (a_p1_lender, .inl (G.2.2.1, 30, .inl p1_lender)), (a_p1_lenderGain, .inl (G.2.2.1, 30, .inl p1_lenderGain)), (a_p1_limit, .inl (G.2.2.1, 10, .inl p1_limit)), (a_p1_memo, .inr (5, [.ref a_p1_memo_gains, .ref a_p1_memo_rests, .int p1_memo_restCount, .ref a_p1_memo_lawfulWays, .int p1_memo_lawfulGain])), (a_p1_memo_gains, .inl (G.2.2.1, 1024, .inl p1_memo_gains)), (a_p1_year, .inl (G.2.2.1, 30, .inl p1_year))]
set_option maxHeartbeats 8000000 in
set_option maxRecDepth 100000 in
theorem ct_X2_gainOf (l : Launch) (G : jG) (a_t : Nat) (a_t_borrows : Nat) (a_t_lends : Nat) (a_t_reach : Nat) (a_t_room : Nat) (a_t_via : Nat) (a_t_wanted : Nat) (a_t_worth : Nat) (a_p1 : Nat) (a_p1_borrower : Nat) (a_p1_borrowerGain : Nat) (a_p1_byYear : Nat) (a_p1_either : Nat) (a_p1_lender : Nat) (a_p1_lenderGain : Nat) (a_p1_limit : Nat) (a_p1_memo : Nat) (a_p1_memo_gains : Nat) (a_p1_year : Nat) (t_going : Int32) (t_chosen : Int32) (t_borrows : Nat → Int32) (t_lends : Nat → Int32) (t_reach : Nat → Int32) (t_room : Nat → Int32) (t_via : Nat → Int32) (t_wanted : Nat → Int32) (t_worth : Nat → Int32) (p1_persons : Int32) (p1_deals : Int32) (p1_lawYears : Int32) (p1_toldParts : Int32) (a_p1_personNames : Nat) (a_p1_born : Nat) (a_p1_dies : Nat) (a_p1_dealNames : Nat) (p1_borrower : Nat → Int32) (p1_borrowerGain : Nat → Int32) (p1_byYear : Nat → Int32) (p1_either : Nat → Int32) (p1_lender : Nat → Int32) (p1_lenderGain : Nat → Int32) (p1_limit : Nat → Int32) (a_p1_memo_rests : Nat) (p1_memo_restCount : Int32) (a_p1_memo_lawfulWays : Nat) (p1_memo_lawfulGain : Int32) (p1_memo_gains : Nat → Int32) (p1_year : Nat → Int32) (p2 : Int32) (r : Int32 × (Nat → Int32) × Int32 × (Nat → Int32) × (Nat → Int32) × (Nat → Int32) × (Nat → Int32) × Int32 × (Nat → Int32) × (Nat → Int32) × (Nat → Int32)) (hd : dn_X2_gainOf t_going t_chosen t_borrows t_lends t_reach t_room t_via t_wanted t_worth p1_persons p1_deals p1_borrower p1_borrowerGain p1_byYear p1_either p1_lender p1_lenderGain p1_limit p1_memo_gains p1_year p2 = some r) : jM l G yX2_gainOf wsX2_gainOf rm_X2_gainOf [.ref a_t, .ref a_p1, .int p2] (wd_X2_gainOf G a_t a_t_borrows a_t_lends a_t_reach a_t_room a_t_via a_t_wanted a_t_worth a_p1 a_p1_borrower a_p1_borrowerGain a_p1_byYear a_p1_either a_p1_lender a_p1_lenderGain a_p1_limit a_p1_memo a_p1_memo_gains a_p1_year t_going t_chosen t_borrows t_lends t_reach t_room t_via t_wanted t_worth p1_persons p1_deals p1_lawYears p1_toldParts a_p1_personNames a_p1_born a_p1_dies a_p1_dealNames p1_borrower p1_borrowerGain p1_byYear p1_either p1_lender p1_lenderGain p1_limit a_p1_memo_rests p1_memo_restCount a_p1_memo_lawfulWays p1_memo_lawfulGain p1_memo_gains p1_year) (some (.int r.1)) (wd_X2_gainOf G a_t a_t_borrows a_t_lends a_t_reach a_t_room a_t_via a_t_wanted a_t_worth a_p1 a_p1_borrower a_p1_borrowerGain a_p1_byYear a_p1_either a_p1_lender a_p1_lenderGain a_p1_limit a_p1_memo a_p1_memo_gains a_p1_year r.2.2.1 r.2.2.2.2.2.2.2.1 r.2.2.2.2.2.1 r.2.2.2.2.1 r.2.2.2.2.2.2.2.2.1 r.2.1 r.2.2.2.2.2.2.2.2.2.1 r.2.2.2.1 r.2.2.2.2.2.2.1 p1_persons p1_deals p1_lawYears p1_toldParts a_p1_personNames a_p1_born a_p1_dies a_p1_dealNames p1_borrower p1_borrowerGain p1_byYear p1_either p1_lender p1_lenderGain p1_limit a_p1_memo_rests p1_memo_restCount a_p1_memo_lawfulWays p1_memo_lawfulGain r.2.2.2.2.2.2.2.2.2.2 p1_year) := by
  refine jM_of (own := RX2) (by decide) rfl rfl rfl (Nat.le_of_ble_eq_true rfl) (lv0 := [(0, .ref a_t), (1, .ref a_p1), (2, .int p2)]) rfl (fun X C hE => ?_)
  unfold dn_X2_gainOf at hd
  refine j_aload_n (pc := 0) C dX2_gainOf_0 rfl 1 rfl ?_
  refine j_get (pc := 1) (q0 := 8) (ci := 10) (kf := 16) C dX2_gainOf_1 in_X2_gainOf_X10 rfl (by decide) fl_X2_gainOf_40 rfl rfl ?_
  refine j_get (pc := 4) (q0 := 16) (ci := 5) (kf := 0) C dX2_gainOf_4 in_X2_gainOf_X5 rfl (by decide) fl_X2_gainOf_46 rfl rfl ?_
  refine j_iload_n (pc := 7) C dX2_gainOf_7 rfl 2 rfl ?_
  obtain ⟨h1, hd⟩ := ob_chk hd
  refine j_iald (pc := 8) (q0 := 17) C dX2_gainOf_8 rfl h1 ?_
  refine j_iconst (pc := 9) (v := (-1)) C dX2_gainOf_9 jk_Im1 ?_
  refine j_icmp_ne (pc := 10) (tgt := 30) C dX2_gainOf_10 (by decide) (fun c2 => ?_) (fun c2 => ?_)
  · have hd := ob_neg c2 hd
    refine j_aload_n (pc := 30) C dX2_gainOf_30 rfl 1 rfl ?_
    refine j_get (pc := 31) (q0 := 8) (ci := 10) (kf := 16) C dX2_gainOf_31 in_X2_gainOf_X10 rfl (by decide) fl_X2_gainOf_40 rfl rfl ?_
    refine j_get (pc := 34) (q0 := 16) (ci := 5) (kf := 0) C dX2_gainOf_34 in_X2_gainOf_X5 rfl (by decide) fl_X2_gainOf_46 rfl rfl ?_
    refine j_iload_n (pc := 37) C dX2_gainOf_37 rfl 2 rfl ?_
    obtain ⟨h3, hd⟩ := ob_chk hd
    refine j_iald (pc := 38) (q0 := 17) C dX2_gainOf_38 rfl h3 ?_
    obtain rfl := Option.some.inj hd
    exact j_iret (pc := 39) C hE dX2_gainOf_39 rfl rfl
  · have hd := ob_pos c2 hd
    refine j_aload_n (pc := 13) C dX2_gainOf_13 rfl 1 rfl ?_
    refine j_get (pc := 14) (q0 := 8) (ci := 10) (kf := 16) C dX2_gainOf_14 in_X2_gainOf_X10 rfl (by decide) fl_X2_gainOf_40 rfl rfl ?_
    refine j_get (pc := 17) (q0 := 16) (ci := 5) (kf := 0) C dX2_gainOf_17 in_X2_gainOf_X5 rfl (by decide) fl_X2_gainOf_46 rfl rfl ?_
    refine j_iload_n (pc := 20) C dX2_gainOf_20 rfl 2 rfl ?_
    refine j_aload_n (pc := 21) C dX2_gainOf_21 rfl 0 rfl ?_
    refine j_aload_n (pc := 22) C dX2_gainOf_22 rfl 1 rfl ?_
    refine j_iload_n (pc := 23) C dX2_gainOf_23 rfl 2 rfl ?_
    refine j_iconst (pc := 24) (v := (-1)) C dX2_gainOf_24 jk_Im1 ?_
    refine j_iconst (pc := 25) (v := 0) C dX2_gainOf_25 jk_I0 ?_
    obtain ⟨q4, eq4, hd⟩ := ob_bind hd
    refine j_callV (pc := 26) (q0 := 0) (ci := 2) (As := [.ref a_p1, .int p2, .int (-1), .int 0]) (rest := [.int p2, .ref a_p1_memo_gains]) (st2 := [.int q4.1, .int p2, .ref a_p1_memo_gains]) (ws2 := wd_X2_gainOf G a_t a_t_borrows a_t_lends a_t_reach a_t_room a_t_via a_t_wanted a_t_worth a_p1 a_p1_borrower a_p1_borrowerGain a_p1_byYear a_p1_either a_p1_lender a_p1_lenderGain a_p1_limit a_p1_memo a_p1_memo_gains a_p1_year q4.2.2.1 q4.2.2.2.2.2.2.2.1 q4.2.2.2.2.2.1 q4.2.2.2.2.1 q4.2.2.2.2.2.2.2.2.1 q4.2.1 q4.2.2.2.2.2.2.2.2.2 q4.2.2.2.1 q4.2.2.2.2.2.2.1 p1_persons p1_deals p1_lawYears p1_toldParts a_p1_personNames a_p1_born a_p1_dies a_p1_dealNames p1_borrower p1_borrowerGain p1_byYear p1_either p1_lender p1_lenderGain p1_limit a_p1_memo_rests p1_memo_restCount a_p1_memo_lawfulWays p1_memo_lawfulGain p1_memo_gains p1_year) C (ct_X2_gainWithLimit l G a_t a_t_borrows a_t_lends a_t_reach a_t_room a_t_via a_t_wanted a_t_worth a_p1 a_p1_borrower a_p1_borrowerGain a_p1_byYear a_p1_either a_p1_lender a_p1_lenderGain a_p1_limit a_p1_year t_going t_chosen t_borrows t_lends t_reach t_room t_via t_wanted t_worth p1_persons p1_deals p1_lawYears p1_toldParts a_p1_personNames a_p1_born a_p1_dies a_p1_dealNames a_p1_memo p1_borrower p1_borrowerGain p1_byYear p1_either p1_lender p1_lenderGain p1_limit p1_year p2 (-1) 0 q4 eq4) jy_X2_gainWithLimit dX2_gainOf_26 gX2_gainOf_X2_gainWithLimit rfl rfl (by decide) ⟨Nat.zero_le _, Nat.zero_le _⟩ [0, 1, 2, 3, 4, 5, 6, 7, 8, 9, 10, 11, 12, 13, 14, 15, 18] rfl rfl (jpt_eq rfl rfl rfl) rfl rfl rfl (Nat.le_of_ble_eq_true rfl) rfl ?_
    obtain ⟨h5, hd⟩ := ob_chk hd
    refine j_iast (pc := 29) (q0 := 17) (ws2 := wd_X2_gainOf G a_t a_t_borrows a_t_lends a_t_reach a_t_room a_t_via a_t_wanted a_t_worth a_p1 a_p1_borrower a_p1_borrowerGain a_p1_byYear a_p1_either a_p1_lender a_p1_lenderGain a_p1_limit a_p1_memo a_p1_memo_gains a_p1_year q4.2.2.1 q4.2.2.2.2.2.2.2.1 q4.2.2.2.2.2.1 q4.2.2.2.2.1 q4.2.2.2.2.2.2.2.2.1 q4.2.1 q4.2.2.2.2.2.2.2.2.2 q4.2.2.2.1 q4.2.2.2.2.2.2.1 p1_persons p1_deals p1_lawYears p1_toldParts a_p1_personNames a_p1_born a_p1_dies a_p1_dealNames p1_borrower p1_borrowerGain p1_byYear p1_either p1_lender p1_lenderGain p1_limit a_p1_memo_rests p1_memo_restCount a_p1_memo_lawfulWays p1_memo_lawfulGain (upd p1_memo_gains (p2).toNatClampNeg q4.1) p1_year) C dX2_gainOf_29 rfl h5 rfl ?_
    refine j_aload_n (pc := 30) C dX2_gainOf_30 rfl 1 rfl ?_
    refine j_get (pc := 31) (q0 := 8) (ci := 10) (kf := 16) C dX2_gainOf_31 in_X2_gainOf_X10 rfl (by decide) fl_X2_gainOf_40 rfl rfl ?_
    refine j_get (pc := 34) (q0 := 16) (ci := 5) (kf := 0) C dX2_gainOf_34 in_X2_gainOf_X5 rfl (by decide) fl_X2_gainOf_46 rfl rfl ?_
    refine j_iload_n (pc := 37) C dX2_gainOf_37 rfl 2 rfl ?_
    obtain ⟨h6, hd⟩ := ob_chk hd
    refine j_iald (pc := 38) (q0 := 17) C dX2_gainOf_38 rfl h6 ?_
    obtain rfl := Option.some.inj hd
    exact j_iret (pc := 39) C hE dX2_gainOf_39 rfl rfl
