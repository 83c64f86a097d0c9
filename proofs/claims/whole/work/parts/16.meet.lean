/-! ##### LendTown$Meetings.addPair(II)V -/
abbrev rm_X4_addPair : Room := { frames := 0, cells := 0, slots := 0, locals := 0 }
theorem jy_X4_addPair : jY yX4_addPair wsX4_addPair rm_X4_addPair cX4_addPair 3 none 2 := ⟨⟨_, rfl⟩, ⟨rfl, rfl⟩, by decide, by decide, by decide +kernel⟩
theorem in_X4_addPair_X4 : ∀ w ∈ u_ws RX4 TX4 7, w ∈ wsX4_addPair := fun w h => List.mem_cons_of_mem _ (List.mem_append_right _ (h))
theorem fl_X4_addPair_15 : Cond.fieldLink RX4 15 "LendTown$Meetings" "first" "[I" ∈ wsX4_addPair := List.mem_of_getElem? (i := 1) rfl
theorem fl_X4_addPair_9 : Cond.fieldLink RX4 9 "LendTown$Meetings" "pairs" "I" ∈ wsX4_addPair := List.mem_of_getElem? (i := 2) rfl
theorem fl_X4_addPair_19 : Cond.fieldLink RX4 19 "LendTown$Meetings" "second" "[I" ∈ wsX4_addPair := List.mem_of_getElem? (i := 3) rfl
theorem fl_X4_addPair_22 : Cond.fieldLink RX4 22 "LendTown$Meetings" "near" "[I" ∈ wsX4_addPair := List.mem_of_getElem? (i := 4) rfl
theorem fl_X4_addPair_25 : Cond.fieldLink RX4 25 "LendTown$Meetings" "met" "I" ∈ wsX4_addPair := List.mem_of_getElem? (i := 5) rfl
def wd_X4_addPair (G : jG) (a_t : Nat) (a_t_first : Nat) (a_t_near : Nat) (a_t_second : Nat) (t_pairs : Int32) (t_met : Int32) (t_likeSide : Int32) (t_otherSide : Int32) (t_first : Nat → Int32) (t_near : Nat → Int32) (t_second : Nat → Int32) : va_W := [(a_t, .inr (4, [.int t_pairs, .ref a_t_first, .ref a_t_second, .ref a_t_near, .int t_met, .int t_likeSide, .int t_otherSide])), (a_t_first, .inl (G.2.2.1, 20, .inl t_first)), (a_t_near, .inl (G.2.2.1, 10, .inl t_near)), (a_t_second, .inl (G.2.2.1, 20, .inl t_second))]
set_option maxHeartbeats 8000000 in
set_option maxRecDepth 100000 in
theorem ct_X4_addPair (l : Launch) (G : jG) (a_t : Nat) (a_t_first : Nat) (a_t_near : Nat) (a_t_second : Nat) (t_pairs : Int32) (t_met : Int32) (t_likeSide : Int32) (t_otherSide : Int32) (t_first : Nat → Int32) (t_near : Nat → Int32) (t_second : Nat → Int32) (p1 : Int32) (p2 : Int32) (r : (Nat → Int32) × (Nat → Int32) × Int32 × (Nat → Int32) × Int32) (hd : dn_X4_addPair t_pairs t_met t_first t_near t_second p1 p2 = some r) : jM l G yX4_addPair wsX4_addPair rm_X4_addPair [.ref a_t, .int p1, .int p2] (wd_X4_addPair G a_t a_t_first a_t_near a_t_second t_pairs t_met t_likeSide t_otherSide t_first t_near t_second) none (wd_X4_addPair G a_t a_t_first a_t_near a_t_second r.2.2.1 r.2.2.2.2 t_likeSide t_otherSide r.1 r.2.2.2.1 r.2.1) := by
  refine jM_of (own := RX4) (by decide) rfl rfl rfl (Nat.le_of_ble_eq_true rfl) (lv0 := [(0, .ref a_t), (1, .int p1), (2, .int p2)]) rfl (fun X C hE => ?_)
  unfold dn_X4_addPair at hd
  refine j_aload_n (pc := 0) C dX4_addPair_0 rfl 0 rfl ?_
  refine j_get (pc := 1) (q0 := 0) (ci := 4) (kf := 1) C dX4_addPair_1 in_X4_addPair_X4 rfl (by decide) fl_X4_addPair_15 rfl rfl ?_
  refine j_aload_n (pc := 4) C dX4_addPair_4 rfl 0 rfl ?_
  refine j_get (pc := 5) (q0 := 0) (ci := 4) (kf := 0) C dX4_addPair_5 in_X4_addPair_X4 rfl (by decide) fl_X4_addPair_9 rfl rfl ?_
  refine j_iload_n (pc := 8) C dX4_addPair_8 rfl 1 rfl ?_
  obtain ⟨h1, hd⟩ := ob_chk hd
  refine j_iast (pc := 9) (q0 := 1) (ws2 := wd_X4_addPair G a_t a_t_first a_t_near a_t_second t_pairs t_met t_likeSide t_otherSide (upd t_first (t_pairs).toNatClampNeg p1) t_near t_second) C dX4_addPair_9 rfl h1 rfl ?_
  refine j_aload_n (pc := 10) C dX4_addPair_10 rfl 0 rfl ?_
  refine j_get (pc := 11) (q0 := 0) (ci := 4) (kf := 2) C dX4_addPair_11 in_X4_addPair_X4 rfl (by decide) fl_X4_addPair_19 rfl rfl ?_
  refine j_aload_n (pc := 14) C dX4_addPair_14 rfl 0 rfl ?_
  refine j_get (pc := 15) (q0 := 0) (ci := 4) (kf := 0) C dX4_addPair_15 in_X4_addPair_X4 rfl (by decide) fl_X4_addPair_9 rfl rfl ?_
  refine j_iload_n (pc := 18) C dX4_addPair_18 rfl 2 rfl ?_
  obtain ⟨h2, hd⟩ := ob_chk hd
  refine j_iast (pc := 19) (q0 := 3) (ws2 := wd_X4_addPair G a_t a_t_first a_t_near a_t_second t_pairs t_met t_likeSide t_otherSide (upd t_first (t_pairs).toNatClampNeg p1) t_near (upd t_second (t_pairs).toNatClampNeg p2)) C dX4_addPair_19 rfl h2 rfl ?_
  refine j_aload_n (pc := 20) C dX4_addPair_20 rfl 0 rfl ?_
  refine j_dup (pc := 21) C dX4_addPair_21 rfl ?_
  refine j_get (pc := 22) (q0 := 0) (ci := 4) (kf := 0) C dX4_addPair_22 in_X4_addPair_X4 rfl (by decide) fl_X4_addPair_9 rfl rfl ?_
  refine j_iconst (pc := 25) (v := 1) C dX4_addPair_25 jk_I1 ?_
  refine j_iadd (pc := 26) C dX4_addPair_26 ?_
  refine j_put (pc := 27) (q0 := 0) (ci := 4) (kf := 0) (ws2 := wd_X4_addPair G a_t a_t_first a_t_near a_t_second (t_pairs + 1) t_met t_likeSide t_otherSide (upd t_first (t_pairs).toNatClampNeg p1) t_near (upd t_second (t_pairs).toNatClampNeg p2)) C dX4_addPair_27 in_X4_addPair_X4 tyX4 tyX4_ok nmX4 rfl (by decide) fl_X4_addPair_9 rfl rfl rfl rfl (Nat.le_of_ble_eq_true rfl) rfl ?_
  refine j_aload_n (pc := 30) C dX4_addPair_30 rfl 0 rfl ?_
  refine j_get (pc := 31) (q0 := 0) (ci := 4) (kf := 3) C dX4_addPair_31 in_X4_addPair_X4 rfl (by decide) fl_X4_addPair_22 rfl rfl ?_
  refine j_iload_n (pc := 34) C dX4_addPair_34 rfl 1 rfl ?_
  refine j_dup2 (pc := 35) C dX4_addPair_35 rfl rfl ?_
  obtain ⟨h3, hd⟩ := ob_chk hd
  refine j_iald (pc := 36) (q0 := 2) C dX4_addPair_36 rfl h3 ?_
  refine j_iconst (pc := 37) (v := 1) C dX4_addPair_37 jk_I1 ?_
  refine j_iload_n (pc := 38) C dX4_addPair_38 rfl 2 rfl ?_
  refine j_ishl (pc := 39) C dX4_addPair_39 ?_
  refine j_ior (pc := 40) C dX4_addPair_40 ?_
  obtain ⟨h4, hd⟩ := ob_chk hd
  refine j_iast (pc := 41) (q0 := 2) (ws2 := wd_X4_addPair G a_t a_t_first a_t_near a_t_second (t_pairs + 1) t_met t_likeSide t_otherSide (upd t_first (t_pairs).toNatClampNeg p1) (upd t_near (p1).toNatClampNeg ((t_near (p1).toNatClampNeg) ||| ((1 : Int32) <<< (p2 &&& 31)))) (upd t_second (t_pairs).toNatClampNeg p2)) C dX4_addPair_41 rfl h4 rfl ?_
  refine j_aload_n (pc := 42) C dX4_addPair_42 rfl 0 rfl ?_
  refine j_get (pc := 43) (q0 := 0) (ci := 4) (kf := 3) C dX4_addPair_43 in_X4_addPair_X4 rfl (by decide) fl_X4_addPair_22 rfl rfl ?_
  refine j_iload_n (pc := 46) C dX4_addPair_46 rfl 2 rfl ?_
  refine j_dup2 (pc := 47) C dX4_addPair_47 rfl rfl ?_
  obtain ⟨h5, hd⟩ := ob_chk hd
  refine j_iald (pc := 48) (q0 := 2) C dX4_addPair_48 rfl h5 ?_
  refine j_iconst (pc := 49) (v := 1) C dX4_addPair_49 jk_I1 ?_
  refine j_iload_n (pc := 50) C dX4_addPair_50 rfl 1 rfl ?_
  refine j_ishl (pc := 51) C dX4_addPair_51 ?_
  refine j_ior (pc := 52) C dX4_addPair_52 ?_
  obtain ⟨h6, hd⟩ := ob_chk hd
  refine j_iast (pc := 53) (q0 := 2) (ws2 := wd_X4_addPair G a_t a_t_first a_t_near a_t_second (t_pairs + 1) t_met t_likeSide t_otherSide (upd t_first (t_pairs).toNatClampNeg p1) (upd (upd t_near (p1).toNatClampNeg ((t_near (p1).toNatClampNeg) ||| ((1 : Int32) <<< (p2 &&& 31)))) (p2).toNatClampNeg (((upd t_near (p1).toNatClampNeg ((t_near (p1).toNatClampNeg) ||| ((1 : Int32) <<< (p2 &&& 31)))) (p2).toNatClampNeg) ||| ((1 : Int32) <<< (p1 &&& 31)))) (upd t_second (t_pairs).toNatClampNeg p2)) C dX4_addPair_53 rfl h6 rfl ?_
  refine j_aload_n (pc := 54) C dX4_addPair_54 rfl 0 rfl ?_
  refine j_dup (pc := 55) C dX4_addPair_55 rfl ?_
  refine j_get (pc := 56) (q0 := 0) (ci := 4) (kf := 4) C dX4_addPair_56 in_X4_addPair_X4 rfl (by decide) fl_X4_addPair_25 rfl rfl ?_
  refine j_iconst (pc := 59) (v := 1) C dX4_addPair_59 jk_I1 ?_
  refine j_iload_n (pc := 60) C dX4_addPair_60 rfl 1 rfl ?_
  refine j_ishl (pc := 61) C dX4_addPair_61 ?_
  refine j_iconst (pc := 62) (v := 1) C dX4_addPair_62 jk_I1 ?_
  refine j_iload_n (pc := 63) C dX4_addPair_63 rfl 2 rfl ?_
  refine j_ishl (pc := 64) C dX4_addPair_64 ?_
  refine j_ior (pc := 65) C dX4_addPair_65 ?_
  refine j_ior (pc := 66) C dX4_addPair_66 ?_
  refine j_put (pc := 67) (q0 := 0) (ci := 4) (kf := 4) (ws2 := wd_X4_addPair G a_t a_t_first a_t_near a_t_second (t_pairs + 1) (t_met ||| (((1 : Int32) <<< (p1 &&& 31)) ||| ((1 : Int32) <<< (p2 &&& 31)))) t_likeSide t_otherSide (upd t_first (t_pairs).toNatClampNeg p1) (upd (upd t_near (p1).toNatClampNeg ((t_near (p1).toNatClampNeg) ||| ((1 : Int32) <<< (p2 &&& 31)))) (p2).toNatClampNeg (((upd t_near (p1).toNatClampNeg ((t_near (p1).toNatClampNeg) ||| ((1 : Int32) <<< (p2 &&& 31)))) (p2).toNatClampNeg) ||| ((1 : Int32) <<< (p1 &&& 31)))) (upd t_second (t_pairs).toNatClampNeg p2)) C dX4_addPair_67 in_X4_addPair_X4 tyX4 tyX4_ok nmX4 rfl (by decide) fl_X4_addPair_25 rfl rfl rfl rfl (Nat.le_of_ble_eq_true rfl) rfl ?_
  obtain rfl := Option.some.inj hd
  exact j_vret (pc := 70) C hE dX4_addPair_70 rfl rfl
/-! ##### LendTown$Meetings.take(LLendTown$Tape;I)Z -/
abbrev rm_X4_take : Room := { frames := 1, cells := 0, slots := 0, locals := 23 }
theorem jy_X4_take : jY yX4_take wsX4_take rm_X4_take cX4_take 6 (some .boolean) 2 := ⟨⟨_, rfl⟩, ⟨rfl, rfl⟩, by decide, by decide, by decide +kernel⟩
theorem in_X4_take_X4 : ∀ w ∈ u_ws RX4 TX4 7, w ∈ wsX4_take := fun w h => List.mem_cons_of_mem _ (List.mem_append_left _ (List.mem_append_right _ (h)))
theorem in_X4_take_X9 : ∀ w ∈ u_ws RX9 TX9 8, w ∈ wsX4_take := fun w h => List.mem_cons_of_mem _ (List.mem_append_right _ (h))
theorem fl_X4_take_9 : Cond.fieldLink RX4 9 "LendTown$Meetings" "pairs" "I" ∈ wsX4_take := List.mem_of_getElem? (i := 1) rfl
theorem fl_X4_take_25 : Cond.fieldLink RX4 25 "LendTown$Meetings" "met" "I" ∈ wsX4_take := List.mem_of_getElem? (i := 2) rfl
theorem fl_X4_take_22 : Cond.fieldLink RX4 22 "LendTown$Meetings" "near" "[I" ∈ wsX4_take := List.mem_of_getElem? (i := 3) rfl
theorem fl_X4_take_40 : Cond.fieldLink RX4 40 "LendTown$Tape" "size" "I" ∈ wsX4_take := List.mem_of_getElem? (i := 4) rfl
theorem fl_X4_take_45 : Cond.fieldLink RX4 45 "LendTown$Tape" "bytes" "[B" ∈ wsX4_take := List.mem_of_getElem? (i := 5) rfl
def wd_X4_take (G : jG) (a_t : Nat) (a_t_first : Nat) (a_t_near : Nat) (a_t_second : Nat) (a_p1 : Nat) (a_p1_bytes : Nat) (t_pairs : Int32) (t_met : Int32) (t_likeSide : Int32) (t_otherSide : Int32) (t_first : Nat → Int32) (t_near : Nat → Int32) (t_second : Nat → Int32) (p1_size : Int32) (p1_token : Int32) (p1_place : Int32) (p1_number : Int32) (p1_name : Int64) (p1_position : Int32) (p1_stop : Int32) (p1_bytes : Nat → Int32) : va_W := [(a_t, .inr (4, [.int t_pairs, .ref a_t_first, .ref a_t_second, .ref a_t_near, .int t_met, .int t_likeSide, .int t_otherSide])), (a_t_first, .inl (G.2.2.1, 20, .inl t_first)), (a_t_near, .inl (G.2.2.1, 10, .inl t_near)), (a_t_second, .inl (G.2.2.1, 20, .inl t_second)), (a_p1, .inr (9, [.ref a_p1_bytes, .int p1_size, .int p1_token, .int p1_place, .int p1_number, .long p1_name, .int p1_position, .int p1_stop])), (a_p1_bytes, .inl (G.2.1, 940, .inl p1_bytes))]
set_option maxHeartbeats 8000000 in
set_option maxRecDepth 100000 in
theorem lb_X4_take_0 (l : Launch) (G : jG) (a_t : Nat) (a_t_first : Nat) (a_t_near : Nat) (a_t_second : Nat) (a_p1 : Nat) (a_p1_bytes : Nat) (t_likeSide : Int32) (t_otherSide : Int32) (p1_size : Int32) (p1_token : Int32) (p1_place : Int32) (p1_number : Int32) (p1_name : Int64) (p1_position : Int32) (p1_stop : Int32) (p1_bytes : Nat → Int32) (p2 : Int32) (X : jX) (C : jC X l G 6 rm_X4_take cX4_take RX4 wsX4_take) (r : Bool × Int32 × Int32 × (Nat → Int32) × (Nat → Int32) × (Nat → Int32)) (hE : jE X (some .boolean) (some (.int (b2i r.1))) (wd_X4_take G a_t a_t_first a_t_near a_t_second a_p1 a_p1_bytes r.2.1 r.2.2.1 t_likeSide t_otherSide r.2.2.2.2.1 r.2.2.2.1 r.2.2.2.2.2 p1_size p1_token p1_place p1_number p1_name p1_position p1_stop p1_bytes)) (n : Nat) (IH0 : ∀ (v3 : Int32) (t_pairs : Int32) (t_met : Int32) (t_near : Nat → Int32) (t_first : Nat → Int32) (t_second : Nat → Int32), lpN (st_X4_take p1_size p1_bytes p2) n ((v3, t_pairs, t_met, t_near, t_first, t_second)) = some r → J X 0 0 (wd_X4_take G a_t a_t_first a_t_near a_t_second a_p1 a_p1_bytes t_pairs t_met t_likeSide t_otherSide t_first t_near t_second p1_size p1_token p1_place p1_number p1_name p1_position p1_stop p1_bytes) [(0, .ref a_t), (1, .ref a_p1), (2, .int p2), (3, .int v3)] 40 []) (v3 : Int32) (t_pairs : Int32) (t_met : Int32) (t_near : Nat → Int32) (t_first : Nat → Int32) (t_second : Nat → Int32) (hd : lpR (st_X4_take p1_size p1_bytes p2) n (bd_X4_take_0 p1_size p1_bytes p2 v3 t_pairs t_met t_near t_first t_second) = some r) : J X 0 0 (wd_X4_take G a_t a_t_first a_t_near a_t_second a_p1 a_p1_bytes t_pairs t_met t_likeSide t_otherSide t_first t_near t_second p1_size p1_token p1_place p1_number p1_name p1_position p1_stop p1_bytes) [(0, .ref a_t), (1, .ref a_p1), (2, .int p2), (3, .int v3)] 40 [] := by
  unfold bd_X4_take_0 at hd
  refine j_iload_n (pc := 40) C dX4_take_40 rfl 3 rfl ?_
  refine j_iconst (pc := 41) (v := 1) C dX4_take_41 jk_I1 ?_
  refine j_iadd (pc := 42) C dX4_take_42 ?_
  refine j_aload_n (pc := 43) C dX4_take_43 rfl 1 rfl ?_
  refine j_get (pc := 44) (q0 := 4) (ci := 9) (kf := 1) C dX4_take_44 in_X4_take_X9 rfl (by decide) fl_X4_take_40 rfl rfl ?_
  refine j_icmp_ge (pc := 47) (tgt := 111) C dX4_take_47 (by decide) (fun c4 => ?_) (fun c4 => ?_)
  · have hd := lp_pos c4 hd
    refine j_iconst (pc := 111) (v := 1) C dX4_take_111 jk_I1 ?_
    obtain rfl := Option.some.inj hd
    exact j_zret (pc := 112) C hE dX4_take_112 rfl rfl rfl
  · have hd := lp_neg c4 hd
    refine j_aload_n (pc := 50) C dX4_take_50 rfl 1 rfl ?_
    refine j_get (pc := 51) (q0 := 4) (ci := 9) (kf := 0) C dX4_take_51 in_X4_take_X9 rfl (by decide) fl_X4_take_45 rfl rfl ?_
    refine j_iload_n (pc := 54) C dX4_take_54 rfl 3 rfl ?_
    obtain ⟨h5, hd⟩ := lp_chk hd
    refine j_bald (pc := 55) (q0 := 5) C dX4_take_55 rfl h5 ?_
    refine j_sipush (pc := 56) (v := 255) C dX4_take_56 jk_S255 ?_
    refine j_iand (pc := 59) C dX4_take_59 ?_
    refine j_istore (pc := 60) (lv2 := [(0, .ref a_t), (1, .ref a_p1), (2, .int p2), (3, .int v3), (4, .int ((p1_bytes (v3).toNatClampNeg) &&& 255))]) C dX4_take_60 (by decide) [1, 2, 3, 4, 0] rfl ?_
    refine j_aload_n (pc := 62) C dX4_take_62 rfl 1 rfl ?_
    refine j_get (pc := 63) (q0 := 4) (ci := 9) (kf := 0) C dX4_take_63 in_X4_take_X9 rfl (by decide) fl_X4_take_45 rfl rfl ?_
    refine j_iload_n (pc := 66) C dX4_take_66 rfl 3 rfl ?_
    refine j_iconst (pc := 67) (v := 1) C dX4_take_67 jk_I1 ?_
    refine j_iadd (pc := 68) C dX4_take_68 ?_
    obtain ⟨h6, hd⟩ := lp_chk hd
    refine j_bald (pc := 69) (q0 := 5) C dX4_take_69 rfl h6 ?_
    refine j_sipush (pc := 70) (v := 255) C dX4_take_70 jk_S255 ?_
    refine j_iand (pc := 73) C dX4_take_73 ?_
    refine j_istore (pc := 74) (lv2 := [(0, .ref a_t), (1, .ref a_p1), (2, .int p2), (3, .int v3), (4, .int ((p1_bytes (v3).toNatClampNeg) &&& 255)), (5, .int ((p1_bytes ((v3 + 1)).toNatClampNeg) &&& 255))]) C dX4_take_74 (by decide) [1, 2, 3, 4, 5, 0] rfl ?_
    refine j_iload (pc := 76) C dX4_take_76 4 rfl ?_
    refine j_iload_n (pc := 78) C dX4_take_78 rfl 2 rfl ?_
    refine j_icmp_ge (pc := 79) (tgt := 95) C dX4_take_79 (by decide) (fun c7 => ?_) (fun c7 => ?_)
    · have hd := lp_pos c7 hd
      refine j_iconst (pc := 95) (v := 0) C dX4_take_95 jk_I0 ?_
      obtain rfl := Option.some.inj hd
      exact j_zret (pc := 96) C hE dX4_take_96 rfl rfl rfl
    · have hd := lp_neg c7 hd
      refine j_iload (pc := 82) C dX4_take_82 5 rfl ?_
      refine j_iload_n (pc := 84) C dX4_take_84 rfl 2 rfl ?_
      refine j_icmp_ge (pc := 85) (tgt := 95) C dX4_take_85 (by decide) (fun c8 => ?_) (fun c8 => ?_)
      · have hd := lp_pos c8 hd
        refine j_iconst (pc := 95) (v := 0) C dX4_take_95 jk_I0 ?_
        obtain rfl := Option.some.inj hd
        exact j_zret (pc := 96) C hE dX4_take_96 rfl rfl rfl
      · have hd := lp_neg c8 hd
        refine j_iload (pc := 88) C dX4_take_88 4 rfl ?_
        refine j_iload (pc := 90) C dX4_take_90 5 rfl ?_
        refine j_icmp_ne (pc := 92) (tgt := 97) C dX4_take_92 (by decide) (fun c9 => ?_) (fun c9 => ?_)
        · have hd := lp_neg c9 hd
          refine j_aload_n (pc := 97) C dX4_take_97 rfl 0 rfl ?_
          refine j_iload (pc := 98) C dX4_take_98 4 rfl ?_
          refine j_iload (pc := 100) C dX4_take_100 5 rfl ?_
          obtain ⟨q10, eq10, hd⟩ := lp_bind hd
          refine j_callV (pc := 102) (q0 := 0) (ci := 4) (As := [.int ((p1_bytes (v3).toNatClampNeg) &&& 255), .int ((p1_bytes ((v3 + 1)).toNatClampNeg) &&& 255)]) (rest := []) (st2 := []) (ws2 := wd_X4_take G a_t a_t_first a_t_near a_t_second a_p1 a_p1_bytes q10.2.2.1 q10.2.2.2.2 t_likeSide t_otherSide q10.1 q10.2.2.2.1 q10.2.1 p1_size p1_token p1_place p1_number p1_name p1_position p1_stop p1_bytes) C (ct_X4_addPair l G a_t a_t_first a_t_near a_t_second t_pairs t_met t_likeSide t_otherSide t_first t_near t_second ((p1_bytes (v3).toNatClampNeg) &&& 255) ((p1_bytes ((v3 + 1)).toNatClampNeg) &&& 255) q10 eq10) jy_X4_addPair dX4_take_102 gX4_take_X4_addPair rfl rfl (by decide) ⟨Nat.zero_le _, Nat.zero_le _⟩ [0, 1, 2, 3] rfl rfl (jpt_eq rfl rfl rfl) rfl rfl rfl (Nat.le_of_ble_eq_true rfl) rfl ?_
          refine j_iinc (pc := 105) (lv2 := [(0, .ref a_t), (1, .ref a_p1), (2, .int p2), (3, .int (v3 + 2)), (4, .int ((p1_bytes (v3).toNatClampNeg) &&& 255)), (5, .int ((p1_bytes ((v3 + 1)).toNatClampNeg) &&& 255))]) C dX4_take_105 jk_I2 (by decide) 3 rfl [1, 2, 3, 0, 4, 5] rfl ?_
          refine j_goto (pc := 108) (tgt := 40) C dX4_take_108 (by decide) ?_
          refine j_sub (lv2 := [(0, .ref a_t), (1, .ref a_p1), (2, .int p2), (3, .int (v3 + 2))]) [0, 1, 2, 3] rfl ?_
          exact IH0 (v3 + 2) q10.2.2.1 q10.2.2.2.2 q10.2.2.2.1 q10.1 q10.2.1 hd
        · have hd := lp_pos c9 hd
          refine j_iconst (pc := 95) (v := 0) C dX4_take_95 jk_I0 ?_
          obtain rfl := Option.some.inj hd
          exact j_zret (pc := 96) C hE dX4_take_96 rfl rfl rfl
set_option maxHeartbeats 8000000 in
set_option maxRecDepth 100000 in
theorem la_X4_take (l : Launch) (G : jG) (a_t : Nat) (a_t_first : Nat) (a_t_near : Nat) (a_t_second : Nat) (a_p1 : Nat) (a_p1_bytes : Nat) (t_likeSide : Int32) (t_otherSide : Int32) (p1_size : Int32) (p1_token : Int32) (p1_place : Int32) (p1_number : Int32) (p1_name : Int64) (p1_position : Int32) (p1_stop : Int32) (p1_bytes : Nat → Int32) (p2 : Int32) (X : jX) (C : jC X l G 6 rm_X4_take cX4_take RX4 wsX4_take) (r : Bool × Int32 × Int32 × (Nat → Int32) × (Nat → Int32) × (Nat → Int32)) (hE : jE X (some .boolean) (some (.int (b2i r.1))) (wd_X4_take G a_t a_t_first a_t_near a_t_second a_p1 a_p1_bytes r.2.1 r.2.2.1 t_likeSide t_otherSide r.2.2.2.2.1 r.2.2.2.1 r.2.2.2.2.2 p1_size p1_token p1_place p1_number p1_name p1_position p1_stop p1_bytes)) (n : Nat) : (∀ (v3 : Int32) (t_pairs : Int32) (t_met : Int32) (t_near : Nat → Int32) (t_first : Nat → Int32) (t_second : Nat → Int32), lpN (st_X4_take p1_size p1_bytes p2) n ((v3, t_pairs, t_met, t_near, t_first, t_second)) = some r → J X 0 0 (wd_X4_take G a_t a_t_first a_t_near a_t_second a_p1 a_p1_bytes t_pairs t_met t_likeSide t_otherSide t_first t_near t_second p1_size p1_token p1_place p1_number p1_name p1_position p1_stop p1_bytes) [(0, .ref a_t), (1, .ref a_p1), (2, .int p2), (3, .int v3)] 40 []) := by
  induction n with
  | zero => exact (fun v3 t_pairs t_met t_near t_first t_second h => by cases h)
  | succ n ih => exact (fun v3 t_pairs t_met t_near t_first t_second h => lb_X4_take_0 l G a_t a_t_first a_t_near a_t_second a_p1 a_p1_bytes t_likeSide t_otherSide p1_size p1_token p1_place p1_number p1_name p1_position p1_stop p1_bytes p2 X C r hE n (ih) v3 t_pairs t_met t_near t_first t_second (by rw [lpN_succ] at h; exact h))
set_option maxHeartbeats 8000000 in
set_option maxRecDepth 100000 in
theorem ct_X4_take (l : Launch) (G : jG) (a_t : Nat) (a_t_first : Nat) (a_t_near : Nat) (a_t_second : Nat) (a_p1 : Nat) (a_p1_bytes : Nat) (t_pairs : Int32) (t_met : Int32) (t_likeSide : Int32) (t_otherSide : Int32) (t_first : Nat → Int32) (t_near : Nat → Int32) (t_second : Nat → Int32) (p1_size : Int32) (p1_token : Int32) (p1_place : Int32) (p1_number : Int32) (p1_name : Int64) (p1_position : Int32) (p1_stop : Int32) (p1_bytes : Nat → Int32) (p2 : Int32) (r : Bool × Int32 × Int32 × (Nat → Int32) × (Nat → Int32) × (Nat → Int32)) (hd : dn_X4_take t_first t_near t_second p1_size p1_bytes p2 = some r) : jM l G yX4_take wsX4_take rm_X4_take [.ref a_t, .ref a_p1, .int p2] (wd_X4_take G a_t a_t_first a_t_near a_t_second a_p1 a_p1_bytes t_pairs t_met t_likeSide t_otherSide t_first t_near t_second p1_size p1_token p1_place p1_number p1_name p1_position p1_stop p1_bytes) (some (.int (b2i r.1))) (wd_X4_take G a_t a_t_first a_t_near a_t_second a_p1 a_p1_bytes r.2.1 r.2.2.1 t_likeSide t_otherSide r.2.2.2.2.1 r.2.2.2.1 r.2.2.2.2.2 p1_size p1_token p1_place p1_number p1_name p1_position p1_stop p1_bytes) := by
  refine jM_of (own := RX4) (by decide) rfl rfl rfl (Nat.le_of_ble_eq_true rfl) (lv0 := [(0, .ref a_t), (1, .ref a_p1), (2, .int p2)]) rfl (fun X C hE => ?_)
  unfold dn_X4_take at hd
  refine j_aload_n (pc := 0) C dX4_take_0 rfl 0 rfl ?_
  refine j_iconst (pc := 1) (v := 0) C dX4_take_1 jk_I0 ?_
  refine j_put (pc := 2) (q0 := 0) (ci := 4) (kf := 0) (ws2 := wd_X4_take G a_t a_t_first a_t_near a_t_second a_p1 a_p1_bytes 0 t_met t_likeSide t_otherSide t_first t_near t_second p1_size p1_token p1_place p1_number p1_name p1_position p1_stop p1_bytes) C dX4_take_2 in_X4_take_X4 tyX4 tyX4_ok nmX4 rfl (by decide) fl_X4_take_9 rfl rfl rfl rfl (Nat.le_of_ble_eq_true rfl) rfl ?_
  refine j_aload_n (pc := 5) C dX4_take_5 rfl 0 rfl ?_
  refine j_iconst (pc := 6) (v := 0) C dX4_take_6 jk_I0 ?_
  refine j_put (pc := 7) (q0 := 0) (ci := 4) (kf := 4) (ws2 := wd_X4_take G a_t a_t_first a_t_near a_t_second a_p1 a_p1_bytes 0 0 t_likeSide t_otherSide t_first t_near t_second p1_size p1_token p1_place p1_number p1_name p1_position p1_stop p1_bytes) C dX4_take_7 in_X4_take_X4 tyX4 tyX4_ok nmX4 rfl (by decide) fl_X4_take_25 rfl rfl rfl rfl (Nat.le_of_ble_eq_true rfl) rfl ?_
  refine j_aload_n (pc := 10) C dX4_take_10 rfl 0 rfl ?_
  refine j_get (pc := 11) (q0 := 0) (ci := 4) (kf := 3) C dX4_take_11 in_X4_take_X4 rfl (by decide) fl_X4_take_22 rfl rfl ?_
  refine j_iconst (pc := 14) (v := 0) C dX4_take_14 jk_I0 ?_
  refine j_callS (pc := 15) (As := [.ref a_t_near, .int 0]) (rest := []) (st2 := []) (ws2 := wd_X4_take G a_t a_t_first a_t_near a_t_second a_p1 a_p1_bytes 0 0 t_likeSide t_otherSide t_first (jfill 10 t_near 0) t_second p1_size p1_token p1_place p1_number p1_name p1_position p1_stop p1_bytes) C (ct_fill l G 10 a_t_near t_near 0 (by decide)) jy_J7_fill_53178 dX4_take_15 gX4_take_J7_fill_53178 rfl (by decide) ⟨Nat.zero_le _, Nat.zero_le _⟩ [2] rfl rfl (jpt_eq rfl rfl rfl) rfl (Nat.le_of_ble_eq_true rfl) rfl ?_
  refine j_aload_n (pc := 18) C dX4_take_18 rfl 1 rfl ?_
  refine j_get (pc := 19) (q0 := 4) (ci := 9) (kf := 1) C dX4_take_19 in_X4_take_X9 rfl (by decide) fl_X4_take_40 rfl rfl ?_
  refine j_iconst (pc := 22) (v := 2) C dX4_take_22 jk_I2 ?_
  refine j_irem (pc := 23) C dX4_take_23 (by decide) ?_
  refine j_if_ne (pc := 24) (tgt := 36) C dX4_take_24 (by decide) (fun c2 => ?_) (fun c2 => ?_)
  · have hd := ob_neg c2 hd
    refine j_iconst (pc := 36) (v := 0) C dX4_take_36 jk_I0 ?_
    obtain rfl := Option.some.inj hd
    exact j_zret (pc := 37) C hE dX4_take_37 rfl rfl rfl
  · have hd := ob_pos c2 hd
    refine j_aload_n (pc := 27) C dX4_take_27 rfl 1 rfl ?_
    refine j_get (pc := 28) (q0 := 4) (ci := 9) (kf := 1) C dX4_take_28 in_X4_take_X9 rfl (by decide) fl_X4_take_40 rfl rfl ?_
    refine j_bipush (pc := 31) (v := 40) C dX4_take_31 jk_B40 ?_
    refine j_icmp_le (pc := 33) (tgt := 38) C dX4_take_33 (by decide) (fun c3 => ?_) (fun c3 => ?_)
    · have hd := ob_pos c3 hd
      refine j_iconst (pc := 38) (v := 0) C dX4_take_38 jk_I0 ?_
      refine j_istore_n (pc := 39) (lv2 := [(0, .ref a_t), (1, .ref a_p1), (2, .int p2), (3, .int 0)]) C dX4_take_39 rfl (by decide) [1, 2, 3, 0] rfl ?_
      refine j_sub (lv2 := [(0, .ref a_t), (1, .ref a_p1), (2, .int p2), (3, .int 0)]) [0, 1, 2, 3] rfl ?_
      obtain ⟨n, hn⟩ := lpC_ex hd
      exact (la_X4_take l G a_t a_t_first a_t_near a_t_second a_p1 a_p1_bytes t_likeSide t_otherSide p1_size p1_token p1_place p1_number p1_name p1_position p1_stop p1_bytes p2 X C r hE n) 0 0 0 (jfill 10 t_near 0) t_first t_second hn
    · have hd := ob_neg c3 hd
      refine j_iconst (pc := 36) (v := 0) C dX4_take_36 jk_I0 ?_
      obtain rfl := Option.some.inj hd
      exact j_zret (pc := 37) C hE dX4_take_37 rfl rfl rfl
/-! ##### LendTown$Meetings.nearAny(I)I -/
abbrev rm_X4_nearAny : Room := { frames := 0, cells := 0, slots := 0, locals := 0 }
theorem jy_X4_nearAny : jY yX4_nearAny wsX4_nearAny rm_X4_nearAny cX4_nearAny 4 (some .int) 1 := ⟨⟨_, rfl⟩, ⟨rfl, rfl⟩, by decide, by decide, by decide +kernel⟩
theorem in_X4_nearAny_X4 : ∀ w ∈ u_ws RX4 TX4 7, w ∈ wsX4_nearAny := fun w h => List.mem_cons_of_mem _ (List.mem_append_right _ (h))
theorem fl_X4_nearAny_22 : Cond.fieldLink RX4 22 "LendTown$Meetings" "near" "[I" ∈ wsX4_nearAny := List.mem_of_getElem? (i := 1) rfl
def wd_X4_nearAny (G : jG) (a_t : Nat) (a_t_near : Nat) (t_pairs : Int32) (a_t_first : Nat) (a_t_second : Nat) (t_met : Int32) (t_likeSide : Int32) (t_otherSide : Int32) (t_near : Nat → Int32) : va_W := [(a_t, .inr (4, [.int t_pairs, .ref a_t_first, .ref a_t_second, .ref a_t_near, .int t_met, .int t_likeSide, .int t_otherSide])), (a_t_near, .inl (G.2.2.1, 10, .inl t_near))]
set_option maxHeartbeats 8000000 in
set_option maxRecDepth 100000 in
theorem lb_X4_nearAny_0 (l : Launch) (G : jG) (a_t : Nat) (a_t_near : Nat) (t_pairs : Int32) (a_t_first : Nat) (a_t_second : Nat) (t_met : Int32) (t_likeSide : Int32) (t_otherSide : Int32) (t_near : Nat → Int32) (p1 : Int32) (X : jX) (C : jC X l G 4 rm_X4_nearAny cX4_nearAny RX4 wsX4_nearAny) (r : Int32) (hE : jE X (some .int) (some (.int r)) (wd_X4_nearAny G a_t a_t_near t_pairs a_t_first a_t_second t_met t_likeSide t_otherSide t_near)) (n : Nat) (IH0 : ∀ (v2 : Int32) (v3 : Int32), lpN (st_X4_nearAny t_near p1) n ((v2, v3)) = some r → J X 0 0 (wd_X4_nearAny G a_t a_t_near t_pairs a_t_first a_t_second t_met t_likeSide t_otherSide t_near) [(0, .ref a_t), (1, .int p1), (2, .int v2), (3, .int v3)] 4 []) (v2 : Int32) (v3 : Int32) (hd : lpR (st_X4_nearAny t_near p1) n (bd_X4_nearAny_0 t_near p1 v2 v3) = some r) : J X 0 0 (wd_X4_nearAny G a_t a_t_near t_pairs a_t_first a_t_second t_met t_likeSide t_otherSide t_near) [(0, .ref a_t), (1, .int p1), (2, .int v2), (3, .int v3)] 4 [] := by
  unfold bd_X4_nearAny_0 at hd
  refine j_iload_n (pc := 4) C dX4_nearAny_4 rfl 3 rfl ?_
  refine j_bipush (pc := 5) (v := 10) C dX4_nearAny_5 jk_B10 ?_
  refine j_icmp_ge (pc := 7) (tgt := 34) C dX4_nearAny_7 (by decide) (fun c1 => ?_) (fun c1 => ?_)
  · have hd := lp_pos c1 hd
    refine j_iload_n (pc := 34) C dX4_nearAny_34 rfl 2 rfl ?_
    obtain rfl := Option.some.inj hd
    exact j_iret (pc := 35) C hE dX4_nearAny_35 rfl rfl
  · have hd := lp_neg c1 hd
    refine j_iload_n (pc := 10) C dX4_nearAny_10 rfl 1 rfl ?_
    refine j_iload_n (pc := 11) C dX4_nearAny_11 rfl 3 rfl ?_
    refine j_ishr (pc := 12) C dX4_nearAny_12 ?_
    refine j_iconst (pc := 13) (v := 1) C dX4_nearAny_13 jk_I1 ?_
    refine j_iand (pc := 14) C dX4_nearAny_14 ?_
    refine j_iconst (pc := 15) (v := 1) C dX4_nearAny_15 jk_I1 ?_
    refine j_icmp_ne (pc := 16) (tgt := 28) C dX4_nearAny_16 (by decide) (fun c2 => ?_) (fun c2 => ?_)
    · have hd := lp_neg c2 hd
      refine j_iinc (pc := 28) (lv2 := [(0, .ref a_t), (1, .int p1), (2, .int v2), (3, .int (v3 + 1))]) C dX4_nearAny_28 jk_I1 (by decide) 3 rfl [1, 2, 3, 0] rfl ?_
      refine j_goto (pc := 31) (tgt := 4) C dX4_nearAny_31 (by decide) ?_
      refine j_sub (lv2 := [(0, .ref a_t), (1, .int p1), (2, .int v2), (3, .int (v3 + 1))]) [0, 1, 2, 3] rfl ?_
      exact IH0 v2 (v3 + 1) hd
    · have hd := lp_pos c2 hd
      refine j_iload_n (pc := 19) C dX4_nearAny_19 rfl 2 rfl ?_
      refine j_aload_n (pc := 20) C dX4_nearAny_20 rfl 0 rfl ?_
      refine j_get (pc := 21) (q0 := 0) (ci := 4) (kf := 3) C dX4_nearAny_21 in_X4_nearAny_X4 rfl (by decide) fl_X4_nearAny_22 rfl rfl ?_
      refine j_iload_n (pc := 24) C dX4_nearAny_24 rfl 3 rfl ?_
      obtain ⟨h3, hd⟩ := lp_chk hd
      refine j_iald (pc := 25) (q0 := 1) C dX4_nearAny_25 rfl h3 ?_
      refine j_ior (pc := 26) C dX4_nearAny_26 ?_
      refine j_istore_n (pc := 27) (lv2 := [(0, .ref a_t), (1, .int p1), (2, .int (v2 ||| (t_near (v3).toNatClampNeg))), (3, .int v3)]) C dX4_nearAny_27 rfl (by decide) [1, 2, 0, 3] rfl ?_
      refine j_iinc (pc := 28) (lv2 := [(0, .ref a_t), (1, .int p1), (2, .int (v2 ||| (t_near (v3).toNatClampNeg))), (3, .int (v3 + 1))]) C dX4_nearAny_28 jk_I1 (by decide) 3 rfl [1, 2, 3, 0] rfl ?_
      refine j_goto (pc := 31) (tgt := 4) C dX4_nearAny_31 (by decide) ?_
      refine j_sub (lv2 := [(0, .ref a_t), (1, .int p1), (2, .int (v2 ||| (t_near (v3).toNatClampNeg))), (3, .int (v3 + 1))]) [0, 1, 2, 3] rfl ?_
      exact IH0 (v2 ||| (t_near (v3).toNatClampNeg)) (v3 + 1) hd
set_option maxHeartbeats 8000000 in
set_option maxRecDepth 100000 in
theorem la_X4_nearAny (l : Launch) (G : jG) (a_t : Nat) (a_t_near : Nat) (t_pairs : Int32) (a_t_first : Nat) (a_t_second : Nat) (t_met : Int32) (t_likeSide : Int32) (t_otherSide : Int32) (t_near : Nat → Int32) (p1 : Int32) (X : jX) (C : jC X l G 4 rm_X4_nearAny cX4_nearAny RX4 wsX4_nearAny) (r : Int32) (hE : jE X (some .int) (some (.int r)) (wd_X4_nearAny G a_t a_t_near t_pairs a_t_first a_t_second t_met t_likeSide t_otherSide t_near)) (n : Nat) : (∀ (v2 : Int32) (v3 : Int32), lpN (st_X4_nearAny t_near p1) n ((v2, v3)) = some r → J X 0 0 (wd_X4_nearAny G a_t a_t_near t_pairs a_t_first a_t_second t_met t_likeSide t_otherSide t_near) [(0, .ref a_t), (1, .int p1), (2, .int v2), (3, .int v3)] 4 []) := by
  induction n with
  | zero => exact (fun v2 v3 h => by cases h)
  | succ n ih => exact (fun v2 v3 h => lb_X4_nearAny_0 l G a_t a_t_near t_pairs a_t_first a_t_second t_met t_likeSide t_otherSide t_near p1 X C r hE n (ih) v2 v3 (by rw [lpN_succ] at h; exact h))
set_option maxHeartbeats 8000000 in
set_option maxRecDepth 100000 in
theorem ct_X4_nearAny (l : Launch) (G : jG) (a_t : Nat) (a_t_near : Nat) (t_pairs : Int32) (a_t_first : Nat) (a_t_second : Nat) (t_met : Int32) (t_likeSide : Int32) (t_otherSide : Int32) (t_near : Nat → Int32) (p1 : Int32) (r : Int32) (hd : dn_X4_nearAny t_near p1 = some r) : jM l G yX4_nearAny wsX4_nearAny rm_X4_nearAny [.ref a_t, .int p1] (wd_X4_nearAny G a_t a_t_near t_pairs a_t_first a_t_second t_met t_likeSide t_otherSide t_near) (some (.int r)) (wd_X4_nearAny G a_t a_t_near t_pairs a_t_first a_t_second t_met t_likeSide t_otherSide t_near) := by
  refine jM_of (own := RX4) (by decide) rfl rfl rfl (Nat.le_of_ble_eq_true rfl) (lv0 := [(0, .ref a_t), (1, .int p1)]) rfl (fun X C hE => ?_)
  unfold dn_X4_nearAny at hd
  refine j_iconst (pc := 0) (v := 0) C dX4_nearAny_0 jk_I0 ?_
  refine j_istore_n (pc := 1) (lv2 := [(0, .ref a_t), (1, .int p1), (2, .int 0)]) C dX4_nearAny_1 rfl (by decide) [1, 2, 0] rfl ?_
  refine j_iconst (pc := 2) (v := 0) C dX4_nearAny_2 jk_I0 ?_
  refine j_istore_n (pc := 3) (lv2 := [(0, .ref a_t), (1, .int p1), (2, .int 0), (3, .int 0)]) C dX4_nearAny_3 rfl (by decide) [1, 2, 3, 0] rfl ?_
  refine j_sub (lv2 := [(0, .ref a_t), (1, .int p1), (2, .int 0), (3, .int 0)]) [0, 1, 2, 3] rfl ?_
  obtain ⟨n, hn⟩ := lpC_ex hd
  exact (la_X4_nearAny l G a_t a_t_near t_pairs a_t_first a_t_second t_met t_likeSide t_otherSide t_near p1 X C r hE n) 0 0 hn
/-! ##### LendTown$Meetings.spreadFrom(I)V -/
abbrev rm_X4_spreadFrom : Room := { frames := 1, cells := 0, slots := 0, locals := 23 }
theorem jy_X4_spreadFrom : jY yX4_spreadFrom wsX4_spreadFrom rm_X4_spreadFrom cX4_spreadFrom 4 none 1 := ⟨⟨_, rfl⟩, ⟨rfl, rfl⟩, by decide, by decide, by decide +kernel⟩
theorem in_X4_spreadFrom_X4 : ∀ w ∈ u_ws RX4 TX4 7, w ∈ wsX4_spreadFrom := fun w h => List.mem_cons_of_mem _ (List.mem_append_right _ (h))
theorem fl_X4_spreadFrom_28 : Cond.fieldLink RX4 28 "LendTown$Meetings" "likeSide" "I" ∈ wsX4_spreadFrom := List.mem_of_getElem? (i := 1) rfl
theorem fl_X4_spreadFrom_31 : Cond.fieldLink RX4 31 "LendTown$Meetings" "otherSide" "I" ∈ wsX4_spreadFrom := List.mem_of_getElem? (i := 2) rfl
def wd_X4_spreadFrom (G : jG) (a_t : Nat) (a_t_near : Nat) (t_pairs : Int32) (a_t_first : Nat) (a_t_second : Nat) (t_met : Int32) (t_likeSide : Int32) (t_otherSide : Int32) (t_near : Nat → Int32) : va_W := [(a_t, .inr (4, [.int t_pairs, .ref a_t_first, .ref a_t_second, .ref a_t_near, .int t_met, .int t_likeSide, .int t_otherSide])), (a_t_near, .inl (G.2.2.1, 10, .inl t_near))]
set_option maxHeartbeats 8000000 in
set_option maxRecDepth 100000 in
theorem lb_X4_spreadFrom_0 (l : Launch) (G : jG) (a_t : Nat) (a_t_near : Nat) (t_pairs : Int32) (a_t_first : Nat) (a_t_second : Nat) (t_met : Int32) (t_near : Nat → Int32) (p1 : Int32) (X : jX) (C : jC X l G 4 rm_X4_spreadFrom cX4_spreadFrom RX4 wsX4_spreadFrom) (r : Int32 × Int32) (hE : jE X none none (wd_X4_spreadFrom G a_t a_t_near t_pairs a_t_first a_t_second t_met r.1 r.2 t_near)) (n : Nat) (IH0 : ∀ (v2 : Int32) (v3 : Int32) (t_likeSide : Int32) (t_otherSide : Int32), lpN (st_X4_spreadFrom t_near) n ((v2, v3, t_likeSide, t_otherSide)) = some r → J X 0 0 (wd_X4_spreadFrom G a_t a_t_near t_pairs a_t_first a_t_second t_met t_likeSide t_otherSide t_near) [(0, .ref a_t), (2, .int v2), (3, .int v3)] 14 []) (v2 : Int32) (v3 : Int32) (t_likeSide : Int32) (t_otherSide : Int32) (hd : lpR (st_X4_spreadFrom t_near) n (bd_X4_spreadFrom_0 t_near v2 v3 t_likeSide t_otherSide) = some r) : J X 0 0 (wd_X4_spreadFrom G a_t a_t_near t_pairs a_t_first a_t_second t_met t_likeSide t_otherSide t_near) [(0, .ref a_t), (2, .int v2), (3, .int v3)] 14 [] := by
  unfold bd_X4_spreadFrom_0 at hd
  refine j_iload_n (pc := 14) C dX4_spreadFrom_14 rfl 2 rfl ?_
  refine j_bipush (pc := 15) (v := 20) C dX4_spreadFrom_15 jk_B20 ?_
  refine j_icmp_gt (pc := 17) (tgt := 73) C dX4_spreadFrom_17 (by decide) (fun c1 => ?_) (fun c1 => ?_)
  · have hd := lp_pos c1 hd
    obtain rfl := Option.some.inj hd
    exact j_vret (pc := 73) C hE dX4_spreadFrom_73 rfl rfl
  · have hd := lp_neg c1 hd
    refine j_iload_n (pc := 20) C dX4_spreadFrom_20 rfl 1 rfl ?_
    refine j_aload_n (pc := 21) C dX4_spreadFrom_21 rfl 0 rfl ?_
    refine j_get (pc := 22) (q0 := 0) (ci := 4) (kf := 5) C dX4_spreadFrom_22 in_X4_spreadFrom_X4 rfl (by decide) fl_X4_spreadFrom_28 rfl rfl ?_
    refine j_icmp_eq (pc := 25) (tgt := 73) C dX4_spreadFrom_25 (by decide) (fun c2 => ?_) (fun c2 => ?_)
    · have hd := lp_pos c2 hd
      obtain rfl := Option.some.inj hd
      exact j_vret (pc := 73) C hE dX4_spreadFrom_73 rfl rfl
    · have hd := lp_neg c2 hd
      refine j_aload_n (pc := 28) C dX4_spreadFrom_28 rfl 0 rfl ?_
      refine j_get (pc := 29) (q0 := 0) (ci := 4) (kf := 5) C dX4_spreadFrom_29 in_X4_spreadFrom_X4 rfl (by decide) fl_X4_spreadFrom_28 rfl rfl ?_
      refine j_istore_n (pc := 32) (lv2 := [(0, .ref a_t), (2, .int t_likeSide), (3, .int v3)]) C dX4_spreadFrom_32 rfl (by decide) [1, 0, 2] rfl ?_
      refine j_aload_n (pc := 33) C dX4_spreadFrom_33 rfl 0 rfl ?_
      refine j_dup (pc := 34) C dX4_spreadFrom_34 rfl ?_
      refine j_get (pc := 35) (q0 := 0) (ci := 4) (kf := 6) C dX4_spreadFrom_35 in_X4_spreadFrom_X4 rfl (by decide) fl_X4_spreadFrom_31 rfl rfl ?_
      refine j_aload_n (pc := 38) C dX4_spreadFrom_38 rfl 0 rfl ?_
      refine j_aload_n (pc := 39) C dX4_spreadFrom_39 rfl 0 rfl ?_
      refine j_get (pc := 40) (q0 := 0) (ci := 4) (kf := 5) C dX4_spreadFrom_40 in_X4_spreadFrom_X4 rfl (by decide) fl_X4_spreadFrom_28 rfl rfl ?_
      obtain ⟨q3, eq3, hd⟩ := lp_bind hd
      refine j_callV (pc := 43) (q0 := 0) (ci := 4) (As := [.int t_likeSide]) (rest := [.int t_otherSide, .ref a_t]) (st2 := [.int q3, .int t_otherSide, .ref a_t]) (ws2 := wd_X4_spreadFrom G a_t a_t_near t_pairs a_t_first a_t_second t_met t_likeSide t_otherSide t_near) C (ct_X4_nearAny l G a_t a_t_near t_pairs a_t_first a_t_second t_met t_likeSide t_otherSide t_near t_likeSide q3 eq3) jy_X4_nearAny dX4_spreadFrom_43 gX4_spreadFrom_X4_nearAny rfl rfl (by decide) ⟨Nat.zero_le _, Nat.zero_le _⟩ [0, 1] rfl rfl (jpt_eq rfl rfl rfl) rfl rfl rfl (Nat.le_of_ble_eq_true rfl) rfl ?_
      refine j_ior (pc := 46) C dX4_spreadFrom_46 ?_
      refine j_put (pc := 47) (q0 := 0) (ci := 4) (kf := 6) (ws2 := wd_X4_spreadFrom G a_t a_t_near t_pairs a_t_first a_t_second t_met t_likeSide (t_otherSide ||| q3) t_near) C dX4_spreadFrom_47 in_X4_spreadFrom_X4 tyX4 tyX4_ok nmX4 rfl (by decide) fl_X4_spreadFrom_31 rfl rfl rfl rfl (Nat.le_of_ble_eq_true rfl) rfl ?_
      refine j_aload_n (pc := 50) C dX4_spreadFrom_50 rfl 0 rfl ?_
      refine j_dup (pc := 51) C dX4_spreadFrom_51 rfl ?_
      refine j_get (pc := 52) (q0 := 0) (ci := 4) (kf := 5) C dX4_spreadFrom_52 in_X4_spreadFrom_X4 rfl (by decide) fl_X4_spreadFrom_28 rfl rfl ?_
      refine j_aload_n (pc := 55) C dX4_spreadFrom_55 rfl 0 rfl ?_
      refine j_aload_n (pc := 56) C dX4_spreadFrom_56 rfl 0 rfl ?_
      refine j_get (pc := 57) (q0 := 0) (ci := 4) (kf := 6) C dX4_spreadFrom_57 in_X4_spreadFrom_X4 rfl (by decide) fl_X4_spreadFrom_31 rfl rfl ?_
      obtain ⟨q4, eq4, hd⟩ := lp_bind hd
      refine j_callV (pc := 60) (q0 := 0) (ci := 4) (As := [.int (t_otherSide ||| q3)]) (rest := [.int t_likeSide, .ref a_t]) (st2 := [.int q4, .int t_likeSide, .ref a_t]) (ws2 := wd_X4_spreadFrom G a_t a_t_near t_pairs a_t_first a_t_second t_met t_likeSide (t_otherSide ||| q3) t_near) C (ct_X4_nearAny l G a_t a_t_near t_pairs a_t_first a_t_second t_met t_likeSide (t_otherSide ||| q3) t_near (t_otherSide ||| q3) q4 eq4) jy_X4_nearAny dX4_spreadFrom_60 gX4_spreadFrom_X4_nearAny rfl rfl (by decide) ⟨Nat.zero_le _, Nat.zero_le _⟩ [0, 1] rfl rfl (jpt_eq rfl rfl rfl) rfl rfl rfl (Nat.le_of_ble_eq_true rfl) rfl ?_
      refine j_ior (pc := 63) C dX4_spreadFrom_63 ?_
      refine j_put (pc := 64) (q0 := 0) (ci := 4) (kf := 5) (ws2 := wd_X4_spreadFrom G a_t a_t_near t_pairs a_t_first a_t_second t_met (t_likeSide ||| q4) (t_otherSide ||| q3) t_near) C dX4_spreadFrom_64 in_X4_spreadFrom_X4 tyX4 tyX4_ok nmX4 rfl (by decide) fl_X4_spreadFrom_28 rfl rfl rfl rfl (Nat.le_of_ble_eq_true rfl) rfl ?_
      refine j_iinc (pc := 67) (lv2 := [(0, .ref a_t), (2, .int t_likeSide), (3, .int (v3 + 1))]) C dX4_spreadFrom_67 jk_I1 (by decide) 2 rfl [1, 2, 0] rfl ?_
      refine j_goto (pc := 70) (tgt := 14) C dX4_spreadFrom_70 (by decide) ?_
      refine j_sub (lv2 := [(0, .ref a_t), (2, .int t_likeSide), (3, .int (v3 + 1))]) [0, 1, 2] rfl ?_
      exact IH0 t_likeSide (v3 + 1) (t_likeSide ||| q4) (t_otherSide ||| q3) hd
set_option maxHeartbeats 8000000 in
set_option maxRecDepth 100000 in
theorem la_X4_spreadFrom (l : Launch) (G : jG) (a_t : Nat) (a_t_near : Nat) (t_pairs : Int32) (a_t_first : Nat) (a_t_second : Nat) (t_met : Int32) (t_near : Nat → Int32) (p1 : Int32) (X : jX) (C : jC X l G 4 rm_X4_spreadFrom cX4_spreadFrom RX4 wsX4_spreadFrom) (r : Int32 × Int32) (hE : jE X none none (wd_X4_spreadFrom G a_t a_t_near t_pairs a_t_first a_t_second t_met r.1 r.2 t_near)) (n : Nat) : (∀ (v2 : Int32) (v3 : Int32) (t_likeSide : Int32) (t_otherSide : Int32), lpN (st_X4_spreadFrom t_near) n ((v2, v3, t_likeSide, t_otherSide)) = some r → J X 0 0 (wd_X4_spreadFrom G a_t a_t_near t_pairs a_t_first a_t_second t_met t_likeSide t_otherSide t_near) [(0, .ref a_t), (2, .int v2), (3, .int v3)] 14 []) := by
  induction n with
  | zero => exact (fun v2 v3 t_likeSide t_otherSide h => by cases h)
  | succ n ih => exact (fun v2 v3 t_likeSide t_otherSide h => lb_X4_spreadFrom_0 l G a_t a_t_near t_pairs a_t_first a_t_second t_met t_near p1 X C r hE n (ih) v2 v3 t_likeSide t_otherSide (by rw [lpN_succ] at h; exact h))
set_option maxHeartbeats 8000000 in
set_option maxRecDepth 100000 in
theorem ct_X4_spreadFrom (l : Launch) (G : jG) (a_t : Nat) (a_t_near : Nat) (t_pairs : Int32) (a_t_first : Nat) (a_t_second : Nat) (t_met : Int32) (t_likeSide : Int32) (t_otherSide : Int32) (t_near : Nat → Int32) (p1 : Int32) (r : Int32 × Int32) (hd : dn_X4_spreadFrom t_near p1 = some r) : jM l G yX4_spreadFrom wsX4_spreadFrom rm_X4_spreadFrom [.ref a_t, .int p1] (wd_X4_spreadFrom G a_t a_t_near t_pairs a_t_first a_t_second t_met t_likeSide t_otherSide t_near) none (wd_X4_spreadFrom G a_t a_t_near t_pairs a_t_first a_t_second t_met r.1 r.2 t_near) := by
  refine jM_of (own := RX4) (by decide) rfl rfl rfl (Nat.le_of_ble_eq_true rfl) (lv0 := [(0, .ref a_t), (1, .int p1)]) rfl (fun X C hE => ?_)
  unfold dn_X4_spreadFrom at hd
  refine j_aload_n (pc := 0) C dX4_spreadFrom_0 rfl 0 rfl ?_
  refine j_iload_n (pc := 1) C dX4_spreadFrom_1 rfl 1 rfl ?_
  refine j_put (pc := 2) (q0 := 0) (ci := 4) (kf := 5) (ws2 := wd_X4_spreadFrom G a_t a_t_near t_pairs a_t_first a_t_second t_met p1 t_otherSide t_near) C dX4_spreadFrom_2 in_X4_spreadFrom_X4 tyX4 tyX4_ok nmX4 rfl (by decide) fl_X4_spreadFrom_28 rfl rfl rfl rfl (Nat.le_of_ble_eq_true rfl) rfl ?_
  refine j_aload_n (pc := 5) C dX4_spreadFrom_5 rfl 0 rfl ?_
  refine j_iconst (pc := 6) (v := 0) C dX4_spreadFrom_6 jk_I0 ?_
  refine j_put (pc := 7) (q0 := 0) (ci := 4) (kf := 6) (ws2 := wd_X4_spreadFrom G a_t a_t_near t_pairs a_t_first a_t_second t_met p1 0 t_near) C dX4_spreadFrom_7 in_X4_spreadFrom_X4 tyX4 tyX4_ok nmX4 rfl (by decide) fl_X4_spreadFrom_31 rfl rfl rfl rfl (Nat.le_of_ble_eq_true rfl) rfl ?_
  refine j_iconst (pc := 10) (v := 0) C dX4_spreadFrom_10 jk_I0 ?_
  refine j_istore_n (pc := 11) (lv2 := [(0, .ref a_t), (2, .int 0)]) C dX4_spreadFrom_11 rfl (by decide) [1, 0] rfl ?_
  refine j_iconst (pc := 12) (v := 0) C dX4_spreadFrom_12 jk_I0 ?_
  refine j_istore_n (pc := 13) (lv2 := [(0, .ref a_t), (2, .int 0), (3, .int 0)]) C dX4_spreadFrom_13 rfl (by decide) [1, 2, 0] rfl ?_
  refine j_sub (lv2 := [(0, .ref a_t), (2, .int 0), (3, .int 0)]) [0, 1, 2] rfl ?_
  obtain ⟨n, hn⟩ := lpC_ex hd
  exact (la_X4_spreadFrom l G a_t a_t_near t_pairs a_t_first a_t_second t_met t_near p1 X C r hE n) 0 0 p1 0 hn
/-! ##### LendTown$Meetings.waysToBe()I -/
abbrev rm_X4_waysToBe : Room := { frames := 2, cells := 0, slots := 0, locals := 46 }
theorem jy_X4_waysToBe : jY yX4_waysToBe wsX4_waysToBe rm_X4_waysToBe cX4_waysToBe 4 (some .int) 0 := ⟨⟨_, rfl⟩, ⟨rfl, rfl⟩, by decide, by decide, by decide +kernel⟩
theorem in_X4_waysToBe_X4 : ∀ w ∈ u_ws RX4 TX4 7, w ∈ wsX4_waysToBe := fun w h => List.mem_cons_of_mem _ (List.mem_append_right _ (h))
theorem fl_X4_waysToBe_25 : Cond.fieldLink RX4 25 "LendTown$Meetings" "met" "I" ∈ wsX4_waysToBe := List.mem_of_getElem? (i := 1) rfl
theorem fl_X4_waysToBe_28 : Cond.fieldLink RX4 28 "LendTown$Meetings" "likeSide" "I" ∈ wsX4_waysToBe := List.mem_of_getElem? (i := 2) rfl
theorem fl_X4_waysToBe_31 : Cond.fieldLink RX4 31 "LendTown$Meetings" "otherSide" "I" ∈ wsX4_waysToBe := List.mem_of_getElem? (i := 3) rfl
def wd_X4_waysToBe (G : jG) (a_t : Nat) (a_t_near : Nat) (t_pairs : Int32) (a_t_first : Nat) (a_t_second : Nat) (t_met : Int32) (t_likeSide : Int32) (t_otherSide : Int32) (t_near : Nat → Int32) : va_W := [(a_t, .inr (4, [.int t_pairs, .ref a_t_first, .ref a_t_second, .ref a_t_near, .int t_met, .int t_likeSide, .int t_otherSide])), (a_t_near, .inl (G.2.2.1, 10, .inl t_near))]
set_option maxHeartbeats 8000000 in
set_option maxRecDepth 100000 in
theorem lb_X4_waysToBe_0 (l : Launch) (G : jG) (a_t : Nat) (a_t_near : Nat) (t_pairs : Int32) (a_t_first : Nat) (a_t_second : Nat) (t_met : Int32) (t_near : Nat → Int32)  (X : jX) (C : jC X l G 4 rm_X4_waysToBe cX4_waysToBe RX4 wsX4_waysToBe) (r : Int32 × Int32 × Int32) (hE : jE X (some .int) (some (.int r.1)) (wd_X4_waysToBe G a_t a_t_near t_pairs a_t_first a_t_second t_met r.2.1 r.2.2 t_near)) (n : Nat) (IH0 : ∀ (v1 : Int32) (v2 : Int32) (v3 : Int32) (t_likeSide : Int32) (t_otherSide : Int32), lpN (st_X4_waysToBe t_near) n ((v1, v2, v3, t_likeSide, t_otherSide)) = some r → J X 0 0 (wd_X4_waysToBe G a_t a_t_near t_pairs a_t_first a_t_second t_met t_likeSide t_otherSide t_near) [(0, .ref a_t), (1, .int v1), (2, .int v2), (3, .int v3)] 9 []) (v1 : Int32) (v2 : Int32) (v3 : Int32) (t_likeSide : Int32) (t_otherSide : Int32) (hd : lpR (st_X4_waysToBe t_near) n (bd_X4_waysToBe_0 t_near v1 v2 v3 t_likeSide t_otherSide) = some r) : J X 0 0 (wd_X4_waysToBe G a_t a_t_near t_pairs a_t_first a_t_second t_met t_likeSide t_otherSide t_near) [(0, .ref a_t), (1, .int v1), (2, .int v2), (3, .int v3)] 9 [] := by
  unfold bd_X4_waysToBe_0 at hd
  refine j_iload_n (pc := 9) C dX4_waysToBe_9 rfl 3 rfl ?_
  refine j_bipush (pc := 10) (v := 10) C dX4_waysToBe_10 jk_B10 ?_
  refine j_icmp_ge (pc := 12) (tgt := 65) C dX4_waysToBe_12 (by decide) (fun c1 => ?_) (fun c1 => ?_)
  · have hd := lp_pos c1 hd
    refine j_iload_n (pc := 65) C dX4_waysToBe_65 rfl 1 rfl ?_
    obtain rfl := Option.some.inj hd
    exact j_iret (pc := 66) C hE dX4_waysToBe_66 rfl rfl
  · have hd := lp_neg c1 hd
    refine j_iload_n (pc := 15) C dX4_waysToBe_15 rfl 2 rfl ?_
    refine j_if_eq (pc := 16) (tgt := 65) C dX4_waysToBe_16 (by decide) (fun c2 => ?_) (fun c2 => ?_)
    · have hd := lp_pos c2 hd
      refine j_iload_n (pc := 65) C dX4_waysToBe_65 rfl 1 rfl ?_
      obtain rfl := Option.some.inj hd
      exact j_iret (pc := 66) C hE dX4_waysToBe_66 rfl rfl
    · have hd := lp_neg c2 hd
      refine j_aload_n (pc := 19) C dX4_waysToBe_19 rfl 0 rfl ?_
      refine j_iload_n (pc := 20) C dX4_waysToBe_20 rfl 2 rfl ?_
      refine j_iload_n (pc := 21) C dX4_waysToBe_21 rfl 2 rfl ?_
      refine j_ineg (pc := 22) C dX4_waysToBe_22 ?_
      refine j_iand (pc := 23) C dX4_waysToBe_23 ?_
      obtain ⟨q3, eq3, hd⟩ := lp_bind hd
      refine j_callV (pc := 24) (q0 := 0) (ci := 4) (As := [.int (v2 &&& (-v2))]) (rest := []) (st2 := []) (ws2 := wd_X4_waysToBe G a_t a_t_near t_pairs a_t_first a_t_second t_met q3.1 q3.2 t_near) C (ct_X4_spreadFrom l G a_t a_t_near t_pairs a_t_first a_t_second t_met t_likeSide t_otherSide t_near (v2 &&& (-v2)) q3 eq3) jy_X4_spreadFrom dX4_waysToBe_24 gX4_waysToBe_X4_spreadFrom rfl rfl (by decide) ⟨Nat.zero_le _, Nat.zero_le _⟩ [0, 1] rfl rfl (jpt_eq rfl rfl rfl) rfl rfl rfl (Nat.le_of_ble_eq_true rfl) rfl ?_
      refine j_aload_n (pc := 27) C dX4_waysToBe_27 rfl 0 rfl ?_
      refine j_get (pc := 28) (q0 := 0) (ci := 4) (kf := 5) C dX4_waysToBe_28 in_X4_waysToBe_X4 rfl (by decide) fl_X4_waysToBe_28 rfl rfl ?_
      refine j_aload_n (pc := 31) C dX4_waysToBe_31 rfl 0 rfl ?_
      refine j_get (pc := 32) (q0 := 0) (ci := 4) (kf := 6) C dX4_waysToBe_32 in_X4_waysToBe_X4 rfl (by decide) fl_X4_waysToBe_31 rfl rfl ?_
      refine j_iand (pc := 35) C dX4_waysToBe_35 ?_
      refine j_if_eq (pc := 36) (tgt := 41) C dX4_waysToBe_36 (by decide) (fun c4 => ?_) (fun c4 => ?_)
      · have hd := lp_pos c4 hd
        refine j_iload_n (pc := 41) C dX4_waysToBe_41 rfl 1 rfl ?_
        refine j_iconst (pc := 42) (v := 2) C dX4_waysToBe_42 jk_I2 ?_
        refine j_imul (pc := 43) C dX4_waysToBe_43 ?_
        refine j_istore_n (pc := 44) (lv2 := [(0, .ref a_t), (1, .int (v1 * 2)), (2, .int v2), (3, .int v3)]) C dX4_waysToBe_44 rfl (by decide) [1, 0, 2, 3] rfl ?_
        refine j_iload_n (pc := 45) C dX4_waysToBe_45 rfl 2 rfl ?_
        refine j_aload_n (pc := 46) C dX4_waysToBe_46 rfl 0 rfl ?_
        refine j_get (pc := 47) (q0 := 0) (ci := 4) (kf := 5) C dX4_waysToBe_47 in_X4_waysToBe_X4 rfl (by decide) fl_X4_waysToBe_28 rfl rfl ?_
        refine j_aload_n (pc := 50) C dX4_waysToBe_50 rfl 0 rfl ?_
        refine j_get (pc := 51) (q0 := 0) (ci := 4) (kf := 6) C dX4_waysToBe_51 in_X4_waysToBe_X4 rfl (by decide) fl_X4_waysToBe_31 rfl rfl ?_
        refine j_ior (pc := 54) C dX4_waysToBe_54 ?_
        refine j_iconst (pc := 55) (v := (-1)) C dX4_waysToBe_55 jk_Im1 ?_
        refine j_ixor (pc := 56) C dX4_waysToBe_56 ?_
        refine j_iand (pc := 57) C dX4_waysToBe_57 ?_
        refine j_istore_n (pc := 58) (lv2 := [(0, .ref a_t), (1, .int (v1 * 2)), (2, .int (v2 &&& ((q3.1 ||| q3.2) ^^^ (-1)))), (3, .int v3)]) C dX4_waysToBe_58 rfl (by decide) [1, 2, 0, 3] rfl ?_
        refine j_iinc (pc := 59) (lv2 := [(0, .ref a_t), (1, .int (v1 * 2)), (2, .int (v2 &&& ((q3.1 ||| q3.2) ^^^ (-1)))), (3, .int (v3 + 1))]) C dX4_waysToBe_59 jk_I1 (by decide) 3 rfl [1, 2, 3, 0] rfl ?_
        refine j_goto (pc := 62) (tgt := 9) C dX4_waysToBe_62 (by decide) ?_
        refine j_sub (lv2 := [(0, .ref a_t), (1, .int (v1 * 2)), (2, .int (v2 &&& ((q3.1 ||| q3.2) ^^^ (-1)))), (3, .int (v3 + 1))]) [0, 1, 2, 3] rfl ?_
        exact IH0 (v1 * 2) (v2 &&& ((q3.1 ||| q3.2) ^^^ (-1))) (v3 + 1) q3.1 q3.2 hd
      · have hd := lp_neg c4 hd
        refine j_iconst (pc := 39) (v := 0) C dX4_waysToBe_39 jk_I0 ?_
        obtain rfl := Option.some.inj hd
        exact j_iret (pc := 40) C hE dX4_waysToBe_40 rfl rfl
set_option maxHeartbeats 8000000 in
set_option maxRecDepth 100000 in
theorem la_X4_waysToBe (l : Launch) (G : jG) (a_t : Nat) (a_t_near : Nat) (t_pairs : Int32) (a_t_first : Nat) (a_t_second : Nat) (t_met : Int32) (t_near : Nat → Int32)  (X : jX) (C : jC X l G 4 rm_X4_waysToBe cX4_waysToBe RX4 wsX4_waysToBe) (r : Int32 × Int32 × Int32) (hE : jE X (some .int) (some (.int r.1)) (wd_X4_waysToBe G a_t a_t_near t_pairs a_t_first a_t_second t_met r.2.1 r.2.2 t_near)) (n : Nat) : (∀ (v1 : Int32) (v2 : Int32) (v3 : Int32) (t_likeSide : Int32) (t_otherSide : Int32), lpN (st_X4_waysToBe t_near) n ((v1, v2, v3, t_likeSide, t_otherSide)) = some r → J X 0 0 (wd_X4_waysToBe G a_t a_t_near t_pairs a_t_first a_t_second t_met t_likeSide t_otherSide t_near) [(0, .ref a_t), (1, .int v1), (2, .int v2), (3, .int v3)] 9 []) := by
  induction n with
  | zero => exact (fun v1 v2 v3 t_likeSide t_otherSide h => by cases h)
  | succ n ih => exact (fun v1 v2 v3 t_likeSide t_otherSide h => lb_X4_waysToBe_0 l G a_t a_t_near t_pairs a_t_first a_t_second t_met t_near X C r hE n (ih) v1 v2 v3 t_likeSide t_otherSide (by rw [lpN_succ] at h; exact h))
set_option maxHeartbeats 8000000 in
set_option maxRecDepth 100000 in
theorem ct_X4_waysToBe (l : Launch) (G : jG) (a_t : Nat) (a_t_near : Nat) (t_pairs : Int32) (a_t_first : Nat) (a_t_second : Nat) (t_met : Int32) (t_likeSide : Int32) (t_otherSide : Int32) (t_near : Nat → Int32)  (r : Int32 × Int32 × Int32) (hd : dn_X4_waysToBe t_met t_likeSide t_otherSide t_near = some r) : jM l G yX4_waysToBe wsX4_waysToBe rm_X4_waysToBe [.ref a_t] (wd_X4_waysToBe G a_t a_t_near t_pairs a_t_first a_t_second t_met t_likeSide t_otherSide t_near) (some (.int r.1)) (wd_X4_waysToBe G a_t a_t_near t_pairs a_t_first a_t_second t_met r.2.1 r.2.2 t_near) := by
  refine jM_of (own := RX4) (by decide) rfl rfl rfl (Nat.le_of_ble_eq_true rfl) (lv0 := [(0, .ref a_t)]) rfl (fun X C hE => ?_)
  unfold dn_X4_waysToBe at hd
  refine j_iconst (pc := 0) (v := 1) C dX4_waysToBe_0 jk_I1 ?_
  refine j_istore_n (pc := 1) (lv2 := [(0, .ref a_t), (1, .int 1)]) C dX4_waysToBe_1 rfl (by decide) [1, 0] rfl ?_
  refine j_aload_n (pc := 2) C dX4_waysToBe_2 rfl 0 rfl ?_
  refine j_get (pc := 3) (q0 := 0) (ci := 4) (kf := 4) C dX4_waysToBe_3 in_X4_waysToBe_X4 rfl (by decide) fl_X4_waysToBe_25 rfl rfl ?_
  refine j_istore_n (pc := 6) (lv2 := [(0, .ref a_t), (1, .int 1), (2, .int t_met)]) C dX4_waysToBe_6 rfl (by decide) [1, 2, 0] rfl ?_
  refine j_iconst (pc := 7) (v := 0) C dX4_waysToBe_7 jk_I0 ?_
  refine j_istore_n (pc := 8) (lv2 := [(0, .ref a_t), (1, .int 1), (2, .int t_met), (3, .int 0)]) C dX4_waysToBe_8 rfl (by decide) [1, 2, 3, 0] rfl ?_
  refine j_sub (lv2 := [(0, .ref a_t), (1, .int 1), (2, .int t_met), (3, .int 0)]) [0, 1, 2, 3] rfl ?_
  obtain ⟨n, hn⟩ := lpC_ex hd
  exact (la_X4_waysToBe l G a_t a_t_near t_pairs a_t_first a_t_second t_met t_near X C r hE n) 1 t_met 0 t_likeSide t_otherSide hn
/-! ##### LendTown$Meetings.bound(Z)I -/
abbrev rm_X4_bound : Room := { frames := 3, cells := 0, slots := 0, locals := 69 }
theorem jy_X4_bound : jY yX4_bound wsX4_bound rm_X4_bound cX4_bound 2 (some .int) 1 := ⟨⟨_, rfl⟩, ⟨rfl, rfl⟩, by decide, by decide, by decide +kernel⟩
theorem in_X4_bound_X4 : ∀ w ∈ u_ws RX4 TX4 7, w ∈ wsX4_bound := fun w h => List.mem_cons_of_mem _ (List.mem_append_right _ (h))
theorem fl_X4_bound_25 : Cond.fieldLink RX4 25 "LendTown$Meetings" "met" "I" ∈ wsX4_bound := List.mem_of_getElem? (i := 1) rfl
theorem fl_X4_bound_31 : Cond.fieldLink RX4 31 "LendTown$Meetings" "otherSide" "I" ∈ wsX4_bound := List.mem_of_getElem? (i := 3) rfl
theorem fl_X4_bound_28 : Cond.fieldLink RX4 28 "LendTown$Meetings" "likeSide" "I" ∈ wsX4_bound := List.mem_of_getElem? (i := 2) rfl
def wd_X4_bound (G : jG) (a_t : Nat) (a_t_near : Nat) (t_pairs : Int32) (a_t_first : Nat) (a_t_second : Nat) (t_met : Int32) (t_likeSide : Int32) (t_otherSide : Int32) (t_near : Nat → Int32) : va_W := [(a_t, .inr (4, [.int t_pairs, .ref a_t_first, .ref a_t_second, .ref a_t_near, .int t_met, .int t_likeSide, .int t_otherSide])), (a_t_near, .inl (G.2.2.1, 10, .inl t_near))]
set_option maxHeartbeats 8000000 in
set_option maxRecDepth 100000 in
theorem ct_X4_bound (l : Launch) (G : jG) (a_t : Nat) (a_t_near : Nat) (t_pairs : Int32) (a_t_first : Nat) (a_t_second : Nat) (t_met : Int32) (t_likeSide : Int32) (t_otherSide : Int32) (t_near : Nat → Int32) (p1 : Int32) (r : Int32 × Int32 × Int32) (hd : dn_X4_bound t_met t_likeSide t_otherSide t_near p1 = some r) : jM l G yX4_bound wsX4_bound rm_X4_bound [.ref a_t, .int p1] (wd_X4_bound G a_t a_t_near t_pairs a_t_first a_t_second t_met t_likeSide t_otherSide t_near) (some (.int r.1)) (wd_X4_bound G a_t a_t_near t_pairs a_t_first a_t_second t_met r.2.1 r.2.2 t_near) := by
  refine jM_of (own := RX4) (by decide) rfl rfl rfl (Nat.le_of_ble_eq_true rfl) (lv0 := [(0, .ref a_t), (1, .int p1)]) rfl (fun X C hE => ?_)
  unfold dn_X4_bound at hd
  refine j_aload_n (pc := 0) C dX4_bound_0 rfl 0 rfl ?_
  refine j_get (pc := 1) (q0 := 0) (ci := 4) (kf := 4) C dX4_bound_1 in_X4_bound_X4 rfl (by decide) fl_X4_bound_25 rfl rfl ?_
  refine j_if_eq (pc := 4) (tgt := 14) C dX4_bound_4 (by decide) (fun c1 => ?_) (fun c1 => ?_)
  · have hd := ob_pos c1 hd
    refine j_iconst (pc := 14) (v := (-1)) C dX4_bound_14 jk_Im1 ?_
    obtain rfl := Option.some.inj hd
    exact j_iret (pc := 15) C hE dX4_bound_15 rfl rfl
  · have hd := ob_neg c1 hd
    refine j_aload_n (pc := 7) C dX4_bound_7 rfl 0 rfl ?_
    obtain ⟨q2, eq2, hd⟩ := ob_bind hd
    refine j_callV (pc := 8) (q0 := 0) (ci := 4) (As := []) (rest := []) (st2 := [.int q2.1]) (ws2 := wd_X4_bound G a_t a_t_near t_pairs a_t_first a_t_second t_met q2.2.1 q2.2.2 t_near) C (ct_X4_waysToBe l G a_t a_t_near t_pairs a_t_first a_t_second t_met t_likeSide t_otherSide t_near q2 eq2) jy_X4_waysToBe dX4_bound_8 gX4_bound_X4_waysToBe rfl rfl (by decide) ⟨Nat.zero_le _, Nat.zero_le _⟩ [0, 1] rfl rfl (jpt_eq rfl rfl rfl) rfl rfl rfl (Nat.le_of_ble_eq_true rfl) rfl ?_
    refine j_if_ne (pc := 11) (tgt := 16) C dX4_bound_11 (by decide) (fun c3 => ?_) (fun c3 => ?_)
    · have hd := ob_neg c3 hd
      refine j_aload_n (pc := 16) C dX4_bound_16 rfl 0 rfl ?_
      refine j_aload_n (pc := 17) C dX4_bound_17 rfl 0 rfl ?_
      refine j_get (pc := 18) (q0 := 0) (ci := 4) (kf := 4) C dX4_bound_18 in_X4_bound_X4 rfl (by decide) fl_X4_bound_25 rfl rfl ?_
      refine j_aload_n (pc := 21) C dX4_bound_21 rfl 0 rfl ?_
      refine j_get (pc := 22) (q0 := 0) (ci := 4) (kf := 4) C dX4_bound_22 in_X4_bound_X4 rfl (by decide) fl_X4_bound_25 rfl rfl ?_
      refine j_ineg (pc := 25) C dX4_bound_25 ?_
      refine j_iand (pc := 26) C dX4_bound_26 ?_
      obtain ⟨q4, eq4, hd⟩ := ob_bind hd
      refine j_callV (pc := 27) (q0 := 0) (ci := 4) (As := [.int (t_met &&& (-t_met))]) (rest := []) (st2 := []) (ws2 := wd_X4_bound G a_t a_t_near t_pairs a_t_first a_t_second t_met q4.1 q4.2 t_near) C (ct_X4_spreadFrom l G a_t a_t_near t_pairs a_t_first a_t_second t_met q2.2.1 q2.2.2 t_near (t_met &&& (-t_met)) q4 eq4) jy_X4_spreadFrom dX4_bound_27 gX4_bound_X4_spreadFrom rfl rfl (by decide) ⟨Nat.zero_le _, Nat.zero_le _⟩ [0, 1] rfl rfl (jpt_eq rfl rfl rfl) rfl rfl rfl (Nat.le_of_ble_eq_true rfl) rfl ?_
      refine j_iload_n (pc := 30) C dX4_bound_30 rfl 1 rfl ?_
      refine j_if_eq (pc := 31) (tgt := 41) C dX4_bound_31 (by decide) (fun c5 => ?_) (fun c5 => ?_)
      · have hd := ob_pos c5 hd
        refine j_aload_n (pc := 41) C dX4_bound_41 rfl 0 rfl ?_
        refine j_get (pc := 42) (q0 := 0) (ci := 4) (kf := 6) C dX4_bound_42 in_X4_bound_X4 rfl (by decide) fl_X4_bound_31 rfl rfl ?_
        obtain rfl := Option.some.inj hd
        exact j_iret (pc := 45) C hE dX4_bound_45 rfl rfl
      · have hd := ob_neg c5 hd
        refine j_aload_n (pc := 34) C dX4_bound_34 rfl 0 rfl ?_
        refine j_get (pc := 35) (q0 := 0) (ci := 4) (kf := 5) C dX4_bound_35 in_X4_bound_X4 rfl (by decide) fl_X4_bound_28 rfl rfl ?_
        refine j_goto (pc := 38) (tgt := 45) C dX4_bound_38 (by decide) ?_
        obtain rfl := Option.some.inj hd
        exact j_iret (pc := 45) C hE dX4_bound_45 rfl rfl
    · have hd := ob_pos c3 hd
      refine j_iconst (pc := 14) (v := (-1)) C dX4_bound_14 jk_Im1 ?_
      obtain rfl := Option.some.inj hd
      exact j_iret (pc := 15) C hE dX4_bound_15 rfl rfl
/-! ##### LendTown$Meetings.brokenBy(I)I -/
abbrev rm_X4_brokenBy : Room := { frames := 0, cells := 0, slots := 0, locals := 0 }
theorem jy_X4_brokenBy : jY yX4_brokenBy wsX4_brokenBy rm_X4_brokenBy cX4_brokenBy 4 (some .int) 1 := ⟨⟨_, rfl⟩, ⟨rfl, rfl⟩, by decide, by decide, by decide +kernel⟩
theorem in_X4_brokenBy_X4 : ∀ w ∈ u_ws RX4 TX4 7, w ∈ wsX4_brokenBy := fun w h => List.mem_cons_of_mem _ (List.mem_append_right _ (h))
theorem fl_X4_brokenBy_9 : Cond.fieldLink RX4 9 "LendTown$Meetings" "pairs" "I" ∈ wsX4_brokenBy := List.mem_of_getElem? (i := 1) rfl
theorem fl_X4_brokenBy_15 : Cond.fieldLink RX4 15 "LendTown$Meetings" "first" "[I" ∈ wsX4_brokenBy := List.mem_of_getElem? (i := 2) rfl
theorem fl_X4_brokenBy_19 : Cond.fieldLink RX4 19 "LendTown$Meetings" "second" "[I" ∈ wsX4_brokenBy := List.mem_of_getElem? (i := 3) rfl
def wd_X4_brokenBy (G : jG) (a_t : Nat) (a_t_first : Nat) (a_t_second : Nat) (t_pairs : Int32) (a_t_near : Nat) (t_met : Int32) (t_likeSide : Int32) (t_otherSide : Int32) (t_first : Nat → Int32) (t_second : Nat → Int32) : va_W := [(a_t, .inr (4, [.int t_pairs, .ref a_t_first, .ref a_t_second, .ref a_t_near, .int t_met, .int t_likeSide, .int t_otherSide])), (a_t_first, .inl (G.2.2.1, 20, .inl t_first)), (a_t_second, .inl (G.2.2.1, 20, .inl t_second))]
set_option maxHeartbeats 8000000 in
set_option maxRecDepth 100000 in
theorem lb_X4_brokenBy_0 (l : Launch) (G : jG) (a_t : Nat) (a_t_first : Nat) (a_t_second : Nat) (t_pairs : Int32) (a_t_near : Nat) (t_met : Int32) (t_likeSide : Int32) (t_otherSide : Int32) (t_first : Nat → Int32) (t_second : Nat → Int32) (p1 : Int32) (X : jX) (C : jC X l G 4 rm_X4_brokenBy cX4_brokenBy RX4 wsX4_brokenBy) (r : Int32) (hE : jE X (some .int) (some (.int r)) (wd_X4_brokenBy G a_t a_t_first a_t_second t_pairs a_t_near t_met t_likeSide t_otherSide t_first t_second)) (n : Nat) (IH0 : ∀ (v2 : Int32) (v3 : Int32), lpN (st_X4_brokenBy t_pairs t_first t_second p1) n ((v2, v3)) = some r → J X 0 0 (wd_X4_brokenBy G a_t a_t_first a_t_second t_pairs a_t_near t_met t_likeSide t_otherSide t_first t_second) [(0, .ref a_t), (1, .int p1), (2, .int v2), (3, .int v3)] 4 []) (v2 : Int32) (v3 : Int32) (hd : lpR (st_X4_brokenBy t_pairs t_first t_second p1) n (bd_X4_brokenBy_0 t_pairs t_first t_second p1 v2 v3) = some r) : J X 0 0 (wd_X4_brokenBy G a_t a_t_first a_t_second t_pairs a_t_near t_met t_likeSide t_otherSide t_first t_second) [(0, .ref a_t), (1, .int p1), (2, .int v2), (3, .int v3)] 4 [] := by
  unfold bd_X4_brokenBy_0 at hd
  refine j_iload_n (pc := 4) C dX4_brokenBy_4 rfl 3 rfl ?_
  refine j_aload_n (pc := 5) C dX4_brokenBy_5 rfl 0 rfl ?_
  refine j_get (pc := 6) (q0 := 0) (ci := 4) (kf := 0) C dX4_brokenBy_6 in_X4_brokenBy_X4 rfl (by decide) fl_X4_brokenBy_9 rfl rfl ?_
  refine j_icmp_ge (pc := 9) (tgt := 47) C dX4_brokenBy_9 (by decide) (fun c1 => ?_) (fun c1 => ?_)
  · have hd := lp_pos c1 hd
    refine j_iload_n (pc := 47) C dX4_brokenBy_47 rfl 2 rfl ?_
    obtain rfl := Option.some.inj hd
    exact j_iret (pc := 48) C hE dX4_brokenBy_48 rfl rfl
  · have hd := lp_neg c1 hd
    refine j_iload_n (pc := 12) C dX4_brokenBy_12 rfl 1 rfl ?_
    refine j_aload_n (pc := 13) C dX4_brokenBy_13 rfl 0 rfl ?_
    refine j_get (pc := 14) (q0 := 0) (ci := 4) (kf := 1) C dX4_brokenBy_14 in_X4_brokenBy_X4 rfl (by decide) fl_X4_brokenBy_15 rfl rfl ?_
    refine j_iload_n (pc := 17) C dX4_brokenBy_17 rfl 3 rfl ?_
    obtain ⟨h2, hd⟩ := lp_chk hd
    refine j_iald (pc := 18) (q0 := 1) C dX4_brokenBy_18 rfl h2 ?_
    refine j_ishr (pc := 19) C dX4_brokenBy_19 ?_
    refine j_iconst (pc := 20) (v := 1) C dX4_brokenBy_20 jk_I1 ?_
    refine j_iand (pc := 21) C dX4_brokenBy_21 ?_
    refine j_iload_n (pc := 22) C dX4_brokenBy_22 rfl 1 rfl ?_
    refine j_aload_n (pc := 23) C dX4_brokenBy_23 rfl 0 rfl ?_
    refine j_get (pc := 24) (q0 := 0) (ci := 4) (kf := 2) C dX4_brokenBy_24 in_X4_brokenBy_X4 rfl (by decide) fl_X4_brokenBy_19 rfl rfl ?_
    refine j_iload_n (pc := 27) C dX4_brokenBy_27 rfl 3 rfl ?_
    obtain ⟨h3, hd⟩ := lp_chk hd
    refine j_iald (pc := 28) (q0 := 2) C dX4_brokenBy_28 rfl h3 ?_
    refine j_ishr (pc := 29) C dX4_brokenBy_29 ?_
    refine j_iconst (pc := 30) (v := 1) C dX4_brokenBy_30 jk_I1 ?_
    refine j_iand (pc := 31) C dX4_brokenBy_31 ?_
    refine j_icmp_ne (pc := 32) (tgt := 41) C dX4_brokenBy_32 (by decide) (fun c4 => ?_) (fun c4 => ?_)
    · have hd := lp_neg c4 hd
      refine j_iinc (pc := 41) (lv2 := [(0, .ref a_t), (1, .int p1), (2, .int v2), (3, .int (v3 + 1))]) C dX4_brokenBy_41 jk_I1 (by decide) 3 rfl [1, 2, 3, 0] rfl ?_
      refine j_goto (pc := 44) (tgt := 4) C dX4_brokenBy_44 (by decide) ?_
      refine j_sub (lv2 := [(0, .ref a_t), (1, .int p1), (2, .int v2), (3, .int (v3 + 1))]) [0, 1, 2, 3] rfl ?_
      exact IH0 v2 (v3 + 1) hd
    · have hd := lp_pos c4 hd
      refine j_iload_n (pc := 35) C dX4_brokenBy_35 rfl 2 rfl ?_
      refine j_iconst (pc := 36) (v := 1) C dX4_brokenBy_36 jk_I1 ?_
      refine j_iload_n (pc := 37) C dX4_brokenBy_37 rfl 3 rfl ?_
      refine j_ishl (pc := 38) C dX4_brokenBy_38 ?_
      refine j_ior (pc := 39) C dX4_brokenBy_39 ?_
      refine j_istore_n (pc := 40) (lv2 := [(0, .ref a_t), (1, .int p1), (2, .int (v2 ||| ((1 : Int32) <<< (v3 &&& 31)))), (3, .int v3)]) C dX4_brokenBy_40 rfl (by decide) [1, 2, 0, 3] rfl ?_
      refine j_iinc (pc := 41) (lv2 := [(0, .ref a_t), (1, .int p1), (2, .int (v2 ||| ((1 : Int32) <<< (v3 &&& 31)))), (3, .int (v3 + 1))]) C dX4_brokenBy_41 jk_I1 (by decide) 3 rfl [1, 2, 3, 0] rfl ?_
      refine j_goto (pc := 44) (tgt := 4) C dX4_brokenBy_44 (by decide) ?_
      refine j_sub (lv2 := [(0, .ref a_t), (1, .int p1), (2, .int (v2 ||| ((1 : Int32) <<< (v3 &&& 31)))), (3, .int (v3 + 1))]) [0, 1, 2, 3] rfl ?_
      exact IH0 (v2 ||| ((1 : Int32) <<< (v3 &&& 31))) (v3 + 1) hd
set_option maxHeartbeats 8000000 in
set_option maxRecDepth 100000 in
theorem la_X4_brokenBy (l : Launch) (G : jG) (a_t : Nat) (a_t_first : Nat) (a_t_second : Nat) (t_pairs : Int32) (a_t_near : Nat) (t_met : Int32) (t_likeSide : Int32) (t_otherSide : Int32) (t_first : Nat → Int32) (t_second : Nat → Int32) (p1 : Int32) (X : jX) (C : jC X l G 4 rm_X4_brokenBy cX4_brokenBy RX4 wsX4_brokenBy) (r : Int32) (hE : jE X (some .int) (some (.int r)) (wd_X4_brokenBy G a_t a_t_first a_t_second t_pairs a_t_near t_met t_likeSide t_otherSide t_first t_second)) (n : Nat) : (∀ (v2 : Int32) (v3 : Int32), lpN (st_X4_brokenBy t_pairs t_first t_second p1) n ((v2, v3)) = some r → J X 0 0 (wd_X4_brokenBy G a_t a_t_first a_t_second t_pairs a_t_near t_met t_likeSide t_otherSide t_first t_second) [(0, .ref a_t), (1, .int p1), (2, .int v2), (3, .int v3)] 4 []) := by
  induction n with
  | zero => exact (fun v2 v3 h => by cases h)
  | succ n ih => exact (fun v2 v3 h => lb_X4_brokenBy_0 l G a_t a_t_first a_t_second t_pairs a_t_near t_met t_likeSide t_otherSide t_first t_second p1 X C r hE n (ih) v2 v3 (by rw [lpN_succ] at h; exact h))
set_option maxHeartbeats 8000000 in
set_option maxRecDepth 100000 in
theorem ct_X4_brokenBy (l : Launch) (G : jG) (a_t : Nat) (a_t_first : Nat) (a_t_second : Nat) (t_pairs : Int32) (a_t_near : Nat) (t_met : Int32) (t_likeSide : Int32) (t_otherSide : Int32) (t_first : Nat → Int32) (t_second : Nat → Int32) (p1 : Int32) (r : Int32) (hd : dn_X4_brokenBy t_pairs t_first t_second p1 = some r) : jM l G yX4_brokenBy wsX4_brokenBy rm_X4_brokenBy [.ref a_t, .int p1] (wd_X4_brokenBy G a_t a_t_first a_t_second t_pairs a_t_near t_met t_likeSide t_otherSide t_first t_second) (some (.int r)) (wd_X4_brokenBy G a_t a_t_first a_t_second t_pairs a_t_near t_met t_likeSide t_otherSide t_first t_second) := by
  refine jM_of (own := RX4) (by decide) rfl rfl rfl (Nat.le_of_ble_eq_true rfl) (lv0 := [(0, .ref a_t), (1, .int p1)]) rfl (fun X C hE => ?_)
  unfold dn_X4_brokenBy at hd
  refine j_iconst (pc := 0) (v := 0) C dX4_brokenBy_0 jk_I0 ?_
  refine j_istore_n (pc := 1) (lv2 := [(0, .ref a_t), (1, .int p1), (2, .int 0)]) C dX4_brokenBy_1 rfl (by decide) [1, 2, 0] rfl ?_
  refine j_iconst (pc := 2) (v := 0) C dX4_brokenBy_2 jk_I0 ?_
  refine j_istore_n (pc := 3) (lv2 := [(0, .ref a_t), (1, .int p1), (2, .int 0), (3, .int 0)]) C dX4_brokenBy_3 rfl (by decide) [1, 2, 3, 0] rfl ?_
  refine j_sub (lv2 := [(0, .ref a_t), (1, .int p1), (2, .int 0), (3, .int 0)]) [0, 1, 2, 3] rfl ?_
  obtain ⟨n, hn⟩ := lpC_ex hd
  exact (la_X4_brokenBy l G a_t a_t_first a_t_second t_pairs a_t_near t_met t_likeSide t_otherSide t_first t_second p1 X C r hE n) 0 0 hn
/-! ##### LendTown$Meetings.fewestFalse(I)I -/
abbrev rm_X4_fewestFalse : Room := { frames := 1, cells := 0, slots := 0, locals := 23 }
theorem jy_X4_fewestFalse : jY yX4_fewestFalse wsX4_fewestFalse rm_X4_fewestFalse cX4_fewestFalse 6 (some .int) 1 := ⟨⟨_, rfl⟩, ⟨rfl, rfl⟩, by decide, by decide, by decide +kernel⟩
theorem in_X4_fewestFalse_X4 : ∀ w ∈ u_ws RX4 TX4 7, w ∈ wsX4_fewestFalse := fun w h => List.mem_cons_of_mem _ (List.mem_append_right _ (h))
theorem fl_X4_fewestFalse_9 : Cond.fieldLink RX4 9 "LendTown$Meetings" "pairs" "I" ∈ wsX4_fewestFalse := List.mem_of_getElem? (i := 1) rfl
def wd_X4_fewestFalse (G : jG) (a_t : Nat) (a_t_first : Nat) (a_t_second : Nat) (t_pairs : Int32) (a_t_near : Nat) (t_met : Int32) (t_likeSide : Int32) (t_otherSide : Int32) (t_first : Nat → Int32) (t_second : Nat → Int32) : va_W := [(a_t, .inr (4, [.int t_pairs, .ref a_t_first, .ref a_t_second, .ref a_t_near, .int t_met, .int t_likeSide, .int t_otherSide])), (a_t_first, .inl (G.2.2.1, 20, .inl t_first)), (a_t_second, .inl (G.2.2.1, 20, .inl t_second))]
set_option maxHeartbeats 8000000 in
set_option maxRecDepth 100000 in
theorem lb_X4_fewestFalse_0 (l : Launch) (G : jG) (a_t : Nat) (a_t_first : Nat) (a_t_second : Nat) (t_pairs : Int32) (a_t_near : Nat) (t_met : Int32) (t_likeSide : Int32) (t_otherSide : Int32) (t_first : Nat → Int32) (t_second : Nat → Int32) (p1 : Int32) (X : jX) (C : jC X l G 6 rm_X4_fewestFalse cX4_fewestFalse RX4 wsX4_fewestFalse) (r : Int32) (hE : jE X (some .int) (some (.int r)) (wd_X4_fewestFalse G a_t a_t_first a_t_second t_pairs a_t_near t_met t_likeSide t_otherSide t_first t_second)) (n : Nat) (IH0 : ∀ (v2 : Int32) (v3 : Int32), lpN (st_X4_fewestFalse t_pairs t_first t_second p1) n ((v2, v3)) = some r → J X 0 0 (wd_X4_fewestFalse G a_t a_t_first a_t_second t_pairs a_t_near t_met t_likeSide t_otherSide t_first t_second) [(0, .ref a_t), (1, .int p1), (2, .int v2), (3, .int v3)] 11 []) (v2 : Int32) (v3 : Int32) (hd : lpR (st_X4_fewestFalse t_pairs t_first t_second p1) n (bd_X4_fewestFalse_0 t_pairs t_first t_second p1 v2 v3) = some r) : J X 0 0 (wd_X4_fewestFalse G a_t a_t_first a_t_second t_pairs a_t_near t_met t_likeSide t_otherSide t_first t_second) [(0, .ref a_t), (1, .int p1), (2, .int v2), (3, .int v3)] 11 [] := by
  unfold bd_X4_fewestFalse_0 at hd
  refine j_iload_n (pc := 11) C dX4_fewestFalse_11 rfl 3 rfl ?_
  refine j_iload_n (pc := 12) C dX4_fewestFalse_12 rfl 1 rfl ?_
  refine j_icmp_ge (pc := 13) (tgt := 60) C dX4_fewestFalse_13 (by decide) (fun c1 => ?_) (fun c1 => ?_)
  · have hd := lp_pos c1 hd
    refine j_iload_n (pc := 60) C dX4_fewestFalse_60 rfl 2 rfl ?_
    obtain rfl := Option.some.inj hd
    exact j_iret (pc := 61) C hE dX4_fewestFalse_61 rfl rfl
  · have hd := lp_neg c1 hd
    refine j_aload_n (pc := 16) C dX4_fewestFalse_16 rfl 0 rfl ?_
    refine j_iload_n (pc := 17) C dX4_fewestFalse_17 rfl 3 rfl ?_
    obtain ⟨q2, eq2, hd⟩ := lp_bind hd
    refine j_callV (pc := 18) (q0 := 0) (ci := 4) (As := [.int v3]) (rest := []) (st2 := [.int q2]) (ws2 := wd_X4_fewestFalse G a_t a_t_first a_t_second t_pairs a_t_near t_met t_likeSide t_otherSide t_first t_second) C (ct_X4_brokenBy l G a_t a_t_first a_t_second t_pairs a_t_near t_met t_likeSide t_otherSide t_first t_second v3 q2 eq2) jy_X4_brokenBy dX4_fewestFalse_18 gX4_fewestFalse_X4_brokenBy rfl rfl (by decide) ⟨Nat.zero_le _, Nat.zero_le _⟩ [0, 1, 2] rfl rfl (jpt_eq rfl rfl rfl) rfl rfl rfl (Nat.le_of_ble_eq_true rfl) rfl ?_
    refine j_istore (pc := 21) (lv2 := [(0, .ref a_t), (1, .int p1), (2, .int v2), (3, .int v3), (4, .int q2)]) C dX4_fewestFalse_21 (by decide) [1, 2, 3, 4, 0] rfl ?_
    refine j_iload (pc := 23) C dX4_fewestFalse_23 4 rfl ?_
    obtain ⟨q3, eq3, hd⟩ := lp_bind hd
    refine j_callS (pc := 25) (As := [.int q2]) (rest := []) (st2 := [.int q3]) (ws2 := wd_X4_fewestFalse G a_t a_t_first a_t_second t_pairs a_t_near t_met t_likeSide t_otherSide t_first t_second) C (ct_J6_bitCount_0f7a4 l G q2 q3 eq3) jy_J6_bitCount_0f7a4 dX4_fewestFalse_25 gX4_fewestFalse_J6_bitCount_0f7a4 rfl (by decide) ⟨Nat.zero_le _, Nat.zero_le _⟩ [] rfl rfl (jpt_eq rfl rfl rfl) rfl (Nat.le_of_ble_eq_true rfl) rfl ?_
    refine j_iload_n (pc := 28) C dX4_fewestFalse_28 rfl 2 rfl ?_
    obtain ⟨q4, eq4, hd⟩ := lp_bind hd
    refine j_callS (pc := 29) (As := [.int v2]) (rest := [.int q3]) (st2 := [.int q4, .int q3]) (ws2 := wd_X4_fewestFalse G a_t a_t_first a_t_second t_pairs a_t_near t_met t_likeSide t_otherSide t_first t_second) C (ct_J6_bitCount_0f7a4 l G v2 q4 eq4) jy_J6_bitCount_0f7a4 dX4_fewestFalse_29 gX4_fewestFalse_J6_bitCount_0f7a4 rfl (by decide) ⟨Nat.zero_le _, Nat.zero_le _⟩ [] rfl rfl (jpt_eq rfl rfl rfl) rfl (Nat.le_of_ble_eq_true rfl) rfl ?_
    refine j_isub (pc := 32) C dX4_fewestFalse_32 ?_
    refine j_istore (pc := 33) (lv2 := [(0, .ref a_t), (1, .int p1), (2, .int v2), (3, .int v3), (4, .int q2), (5, .int (q3 - q4))]) C dX4_fewestFalse_33 (by decide) [1, 2, 3, 4, 5, 0] rfl ?_
    refine j_iload (pc := 35) C dX4_fewestFalse_35 5 rfl ?_
    refine j_if_lt (pc := 37) (tgt := 51) C dX4_fewestFalse_37 (by decide) (fun c5 => ?_) (fun c5 => ?_)
    · have hd := lp_pos c5 hd
      refine j_iload (pc := 51) C dX4_fewestFalse_51 4 rfl ?_
      refine j_istore_n (pc := 53) (lv2 := [(0, .ref a_t), (1, .int p1), (2, .int q2), (3, .int v3)]) C dX4_fewestFalse_53 rfl (by decide) [1, 2, 0, 3] rfl ?_
      refine j_iinc (pc := 54) (lv2 := [(0, .ref a_t), (1, .int p1), (2, .int q2), (3, .int (v3 + 1))]) C dX4_fewestFalse_54 jk_I1 (by decide) 3 rfl [1, 2, 3, 0] rfl ?_
      refine j_goto (pc := 57) (tgt := 11) C dX4_fewestFalse_57 (by decide) ?_
      refine j_sub (lv2 := [(0, .ref a_t), (1, .int p1), (2, .int q2), (3, .int (v3 + 1))]) [0, 1, 2, 3] rfl ?_
      exact IH0 q2 (v3 + 1) hd
    · have hd := lp_neg c5 hd
      refine j_iload (pc := 40) C dX4_fewestFalse_40 5 rfl ?_
      refine j_if_ne (pc := 42) (tgt := 54) C dX4_fewestFalse_42 (by decide) (fun c6 => ?_) (fun c6 => ?_)
      · have hd := lp_neg c6 hd
        refine j_iinc (pc := 54) (lv2 := [(0, .ref a_t), (1, .int p1), (2, .int v2), (3, .int (v3 + 1)), (4, .int q2), (5, .int (q3 - q4))]) C dX4_fewestFalse_54 jk_I1 (by decide) 3 rfl [1, 2, 3, 0, 4, 5] rfl ?_
        refine j_goto (pc := 57) (tgt := 11) C dX4_fewestFalse_57 (by decide) ?_
        refine j_sub (lv2 := [(0, .ref a_t), (1, .int p1), (2, .int v2), (3, .int (v3 + 1))]) [0, 1, 2, 3] rfl ?_
        exact IH0 v2 (v3 + 1) hd
      · have hd := lp_pos c6 hd
        refine j_iload (pc := 45) C dX4_fewestFalse_45 4 rfl ?_
        refine j_iload_n (pc := 47) C dX4_fewestFalse_47 rfl 2 rfl ?_
        refine j_icmp_ge (pc := 48) (tgt := 54) C dX4_fewestFalse_48 (by decide) (fun c7 => ?_) (fun c7 => ?_)
        · have hd := lp_pos c7 hd
          refine j_iinc (pc := 54) (lv2 := [(0, .ref a_t), (1, .int p1), (2, .int v2), (3, .int (v3 + 1)), (4, .int q2), (5, .int (q3 - q4))]) C dX4_fewestFalse_54 jk_I1 (by decide) 3 rfl [1, 2, 3, 0, 4, 5] rfl ?_
          refine j_goto (pc := 57) (tgt := 11) C dX4_fewestFalse_57 (by decide) ?_
          refine j_sub (lv2 := [(0, .ref a_t), (1, .int p1), (2, .int v2), (3, .int (v3 + 1))]) [0, 1, 2, 3] rfl ?_
          exact IH0 v2 (v3 + 1) hd
        · have hd := lp_neg c7 hd
          refine j_iload (pc := 51) C dX4_fewestFalse_51 4 rfl ?_
          refine j_istore_n (pc := 53) (lv2 := [(0, .ref a_t), (1, .int p1), (2, .int q2), (3, .int v3)]) C dX4_fewestFalse_53 rfl (by decide) [1, 2, 0, 3] rfl ?_
          refine j_iinc (pc := 54) (lv2 := [(0, .ref a_t), (1, .int p1), (2, .int q2), (3, .int (v3 + 1))]) C dX4_fewestFalse_54 jk_I1 (by decide) 3 rfl [1, 2, 3, 0] rfl ?_
          refine j_goto (pc := 57) (tgt := 11) C dX4_fewestFalse_57 (by decide) ?_
          refine j_sub (lv2 := [(0, .ref a_t), (1, .int p1), (2, .int q2), (3, .int (v3 + 1))]) [0, 1, 2, 3] rfl ?_
          exact IH0 q2 (v3 + 1) hd
set_option maxHeartbeats 8000000 in
set_option maxRecDepth 100000 in
theorem la_X4_fewestFalse (l : Launch) (G : jG) (a_t : Nat) (a_t_first : Nat) (a_t_second : Nat) (t_pairs : Int32) (a_t_near : Nat) (t_met : Int32) (t_likeSide : Int32) (t_otherSide : Int32) (t_first : Nat → Int32) (t_second : Nat → Int32) (p1 : Int32) (X : jX) (C : jC X l G 6 rm_X4_fewestFalse cX4_fewestFalse RX4 wsX4_fewestFalse) (r : Int32) (hE : jE X (some .int) (some (.int r)) (wd_X4_fewestFalse G a_t a_t_first a_t_second t_pairs a_t_near t_met t_likeSide t_otherSide t_first t_second)) (n : Nat) : (∀ (v2 : Int32) (v3 : Int32), lpN (st_X4_fewestFalse t_pairs t_first t_second p1) n ((v2, v3)) = some r → J X 0 0 (wd_X4_fewestFalse G a_t a_t_first a_t_second t_pairs a_t_near t_met t_likeSide t_otherSide t_first t_second) [(0, .ref a_t), (1, .int p1), (2, .int v2), (3, .int v3)] 11 []) := by
  induction n with
  | zero => exact (fun v2 v3 h => by cases h)
  | succ n ih => exact (fun v2 v3 h => lb_X4_fewestFalse_0 l G a_t a_t_first a_t_second t_pairs a_t_near t_met t_likeSide t_otherSide t_first t_second p1 X C r hE n (ih) v2 v3 (by rw [lpN_succ] at h; exact h))
set_option maxHeartbeats 8000000 in
set_option maxRecDepth 100000 in
theorem ct_X4_fewestFalse (l : Launch) (G : jG) (a_t : Nat) (a_t_first : Nat) (a_t_second : Nat) (t_pairs : Int32) (a_t_near : Nat) (t_met : Int32) (t_likeSide : Int32) (t_otherSide : Int32) (t_first : Nat → Int32) (t_second : Nat → Int32) (p1 : Int32) (r : Int32) (hd : dn_X4_fewestFalse t_pairs t_first t_second p1 = some r) : jM l G yX4_fewestFalse wsX4_fewestFalse rm_X4_fewestFalse [.ref a_t, .int p1] (wd_X4_fewestFalse G a_t a_t_first a_t_second t_pairs a_t_near t_met t_likeSide t_otherSide t_first t_second) (some (.int r)) (wd_X4_fewestFalse G a_t a_t_first a_t_second t_pairs a_t_near t_met t_likeSide t_otherSide t_first t_second) := by
  refine jM_of (own := RX4) (by decide) rfl rfl rfl (Nat.le_of_ble_eq_true rfl) (lv0 := [(0, .ref a_t), (1, .int p1)]) rfl (fun X C hE => ?_)
  unfold dn_X4_fewestFalse at hd
  refine j_iconst (pc := 0) (v := 1) C dX4_fewestFalse_0 jk_I1 ?_
  refine j_aload_n (pc := 1) C dX4_fewestFalse_1 rfl 0 rfl ?_
  refine j_get (pc := 2) (q0 := 0) (ci := 4) (kf := 0) C dX4_fewestFalse_2 in_X4_fewestFalse_X4 rfl (by decide) fl_X4_fewestFalse_9 rfl rfl ?_
  refine j_ishl (pc := 5) C dX4_fewestFalse_5 ?_
  refine j_iconst (pc := 6) (v := 1) C dX4_fewestFalse_6 jk_I1 ?_
  refine j_isub (pc := 7) C dX4_fewestFalse_7 ?_
  refine j_istore_n (pc := 8) (lv2 := [(0, .ref a_t), (1, .int p1), (2, .int (((1 : Int32) <<< (t_pairs &&& 31)) - 1))]) C dX4_fewestFalse_8 rfl (by decide) [1, 2, 0] rfl ?_
  refine j_iconst (pc := 9) (v := 0) C dX4_fewestFalse_9 jk_I0 ?_
  refine j_istore_n (pc := 10) (lv2 := [(0, .ref a_t), (1, .int p1), (2, .int (((1 : Int32) <<< (t_pairs &&& 31)) - 1)), (3, .int 0)]) C dX4_fewestFalse_10 rfl (by decide) [1, 2, 3, 0] rfl ?_
  refine j_sub (lv2 := [(0, .ref a_t), (1, .int p1), (2, .int (((1 : Int32) <<< (t_pairs &&& 31)) - 1)), (3, .int 0)]) [0, 1, 2, 3] rfl ?_
  obtain ⟨n, hn⟩ := lpC_ex hd
  exact (la_X4_fewestFalse l G a_t a_t_first a_t_second t_pairs a_t_near t_met t_likeSide t_otherSide t_first t_second p1 X C r hE n) (((1 : Int32) <<< (t_pairs &&& 31)) - 1) 0 hn
