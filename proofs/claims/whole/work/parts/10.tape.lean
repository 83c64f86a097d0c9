/-! ##### LendTown$Tape.startReading(I)V -/
abbrev rm_X9_startReading : Room := { frames := 1, cells := 0, slots := 0, locals := 21 }
theorem jy_X9_startReading : jY yX9_startReading wsX9_startReading rm_X9_startReading cX9_startReading 2 none 1 := ⟨⟨_, rfl⟩, ⟨rfl, rfl⟩, by decide, by decide, by decide +kernel⟩
theorem in_X9_startReading_X9 : ∀ w ∈ u_ws RX9 TX9 8, w ∈ wsX9_startReading := fun w h => List.mem_cons_of_mem _ (List.mem_append_right _ (h))
theorem fl_X9_startReading_30 : Cond.fieldLink RX9 30 "LendTown$Tape" "position" "I" ∈ wsX9_startReading := List.mem_of_getElem? (i := 1) rfl
theorem fl_X9_startReading_13 : Cond.fieldLink RX9 13 "LendTown$Tape" "size" "I" ∈ wsX9_startReading := List.mem_of_getElem? (i := 2) rfl
theorem fl_X9_startReading_33 : Cond.fieldLink RX9 33 "LendTown$Tape" "stop" "I" ∈ wsX9_startReading := List.mem_of_getElem? (i := 7) rfl
def wd_X9_startReading (G : jG) (a_t : Nat) (a_t_bytes : Nat) (t_size : Int32) (t_token : Int32) (t_place : Int32) (t_number : Int32) (t_name : Int64) (t_position : Int32) (t_stop : Int32) : va_W := [(a_t, .inr (9, [.ref a_t_bytes, .int t_size, .int t_token, .int t_place, .int t_number, .long t_name, .int t_position, .int t_stop]))]
set_option maxHeartbeats 8000000 in
set_option maxRecDepth 100000 in
theorem ct_X9_startReading (l : Launch) (G : jG) (a_t : Nat) (a_t_bytes : Nat) (t_size : Int32) (t_token : Int32) (t_place : Int32) (t_number : Int32) (t_name : Int64) (t_position : Int32) (t_stop : Int32) (p1 : Int32) (r : Int32 × Int32) (hd : dn_X9_startReading t_size p1 = some r) : jM l G yX9_startReading wsX9_startReading rm_X9_startReading [.ref a_t, .int p1] (wd_X9_startReading G a_t a_t_bytes t_size t_token t_place t_number t_name t_position t_stop) none (wd_X9_startReading G a_t a_t_bytes t_size t_token t_place t_number t_name r.1 r.2) := by
  refine jM_of (own := RX9) (by decide) rfl rfl rfl (Nat.le_of_ble_eq_true rfl) (lv0 := [(0, .ref a_t), (1, .int p1)]) rfl (fun X C hE => ?_)
  unfold dn_X9_startReading at hd
  refine j_aload_n (pc := 0) C dX9_startReading_0 rfl 0 rfl ?_
  refine j_iconst (pc := 1) (v := 0) C dX9_startReading_1 jk_I0 ?_
  refine j_put (pc := 2) (q0 := 0) (ci := 9) (kf := 6) (ws2 := wd_X9_startReading G a_t a_t_bytes t_size t_token t_place t_number t_name 0 t_stop) C dX9_startReading_2 in_X9_startReading_X9 tyX9 tyX9_ok nmX9 rfl (by decide) fl_X9_startReading_30 rfl rfl rfl rfl (Nat.le_of_ble_eq_true rfl) rfl ?_
  refine j_aload_n (pc := 5) C dX9_startReading_5 rfl 0 rfl ?_
  refine j_aload_n (pc := 6) C dX9_startReading_6 rfl 0 rfl ?_
  refine j_get (pc := 7) (q0 := 0) (ci := 9) (kf := 1) C dX9_startReading_7 in_X9_startReading_X9 rfl (by decide) fl_X9_startReading_13 rfl rfl ?_
  refine j_iload_n (pc := 10) C dX9_startReading_10 rfl 1 rfl ?_
  refine j_mmin (pc := 11) C dX9_startReading_11 (List.mem_of_getElem? (i := 3) rfl) (List.mem_of_getElem? (i := 4) rfl) (List.mem_of_getElem? (i := 5) rfl) (List.mem_of_getElem? (i := 6) rfl) (by decide) (Nat.le_of_ble_eq_true rfl) (by decide) (by decide) ?_
  refine j_put (pc := 14) (q0 := 0) (ci := 9) (kf := 7) (ws2 := wd_X9_startReading G a_t a_t_bytes t_size t_token t_place t_number t_name 0 (if p1 < t_size then p1 else t_size)) C dX9_startReading_14 in_X9_startReading_X9 tyX9 tyX9_ok nmX9 rfl (by decide) fl_X9_startReading_33 rfl rfl rfl rfl (Nat.le_of_ble_eq_true rfl) rfl ?_
  obtain rfl := Option.some.inj hd
  exact j_vret (pc := 17) C hE dX9_startReading_17 rfl rfl
/-! ##### LendTown$Tape.readWordOrNumber()V -/
abbrev rm_X9_readWordOrNumber : Room := { frames := 0, cells := 0, slots := 0, locals := 0 }
theorem jy_X9_readWordOrNumber : jY yX9_readWordOrNumber wsX9_readWordOrNumber rm_X9_readWordOrNumber cX9_readWordOrNumber 5 none 0 := ⟨⟨_, rfl⟩, ⟨rfl, rfl⟩, by decide, by decide, by decide +kernel⟩
theorem in_X9_readWordOrNumber_X9 : ∀ w ∈ u_ws RX9 TX9 8, w ∈ wsX9_readWordOrNumber := fun w h => List.mem_cons_of_mem _ (List.mem_append_right _ (h))
theorem fl_X9_readWordOrNumber_23 : Cond.fieldLink RX9 23 "LendTown$Tape" "number" "I" ∈ wsX9_readWordOrNumber := List.mem_of_getElem? (i := 1) rfl
theorem fl_X9_readWordOrNumber_26 : Cond.fieldLink RX9 26 "LendTown$Tape" "name" "J" ∈ wsX9_readWordOrNumber := List.mem_of_getElem? (i := 2) rfl
theorem fl_X9_readWordOrNumber_30 : Cond.fieldLink RX9 30 "LendTown$Tape" "position" "I" ∈ wsX9_readWordOrNumber := List.mem_of_getElem? (i := 3) rfl
theorem fl_X9_readWordOrNumber_13 : Cond.fieldLink RX9 13 "LendTown$Tape" "size" "I" ∈ wsX9_readWordOrNumber := List.mem_of_getElem? (i := 4) rfl
theorem fl_X9_readWordOrNumber_9 : Cond.fieldLink RX9 9 "LendTown$Tape" "bytes" "[B" ∈ wsX9_readWordOrNumber := List.mem_of_getElem? (i := 5) rfl
theorem fl_X9_readWordOrNumber_17 : Cond.fieldLink RX9 17 "LendTown$Tape" "token" "I" ∈ wsX9_readWordOrNumber := List.mem_of_getElem? (i := 7) rfl
def wd_X9_readWordOrNumber (G : jG) (a_t : Nat) (a_t_bytes : Nat) (t_size : Int32) (t_token : Int32) (t_place : Int32) (t_number : Int32) (t_name : Int64) (t_position : Int32) (t_stop : Int32) (t_bytes : Nat → Int32) : va_W := [(a_t, .inr (9, [.ref a_t_bytes, .int t_size, .int t_token, .int t_place, .int t_number, .long t_name, .int t_position, .int t_stop])), (a_t_bytes, .inl (G.2.1, 940, .inl t_bytes))]
set_option maxHeartbeats 8000000 in
set_option maxRecDepth 100000 in
theorem lb_X9_readWordOrNumber_0 (l : Launch) (G : jG) (a_t : Nat) (a_t_bytes : Nat) (t_size : Int32) (t_place : Int32) (t_stop : Int32) (t_bytes : Nat → Int32)  (X : jX) (C : jC X l G 5 rm_X9_readWordOrNumber cX9_readWordOrNumber RX9 wsX9_readWordOrNumber) (r : Int32 × Int64 × Int32 × Int32) (hE : jE X none none (wd_X9_readWordOrNumber G a_t a_t_bytes t_size r.2.2.2 t_place r.1 r.2.1 r.2.2.1 t_stop t_bytes)) (n : Nat) (IH0 : ∀ (v1 : Int32) (v2 : Int32) (t_number : Int32) (t_name : Int64) (t_position : Int32) (t_token : Int32), lpN (st_X9_readWordOrNumber t_size t_bytes) n (.inl (v1, v2, t_number, t_name, t_position, t_token)) = some r → J X 0 0 (wd_X9_readWordOrNumber G a_t a_t_bytes t_size t_token t_place t_number t_name t_position t_stop t_bytes) [(0, .ref a_t), (1, .int v1), (2, .int v2)] 14 []) (IH1 : ∀ (v1 : Int32) (v2 : Int32) (t_number : Int32) (t_name : Int64) (t_position : Int32) (t_token : Int32), lpN (st_X9_readWordOrNumber t_size t_bytes) n (.inr (.inl (v1, v2, t_number, t_name, t_position, t_token))) = some r → J X 0 0 (wd_X9_readWordOrNumber G a_t a_t_bytes t_size t_token t_place t_number t_name t_position t_stop t_bytes) [(0, .ref a_t), (1, .int v1), (2, .int v2)] 117 []) (IH2 : ∀ (v1 : Int32) (v2 : Int32) (v3 : Int32) (t_number : Int32) (t_name : Int64) (t_position : Int32) (t_token : Int32), lpN (st_X9_readWordOrNumber t_size t_bytes) n (.inr (.inr (.inl (v1, v2, v3, t_number, t_name, t_position, t_token)))) = some r → J X 0 0 (wd_X9_readWordOrNumber G a_t a_t_bytes t_size t_token t_place t_number t_name t_position t_stop t_bytes) [(0, .ref a_t), (1, .int v1), (2, .int v2), (3, .int v3)] 73 []) (v1 : Int32) (v2 : Int32) (t_number : Int32) (t_name : Int64) (t_position : Int32) (t_token : Int32) (hd : lpR (st_X9_readWordOrNumber t_size t_bytes) n (bd_X9_readWordOrNumber_0 t_size t_bytes v1 v2 t_number t_name t_position t_token) = some r) : J X 0 0 (wd_X9_readWordOrNumber G a_t a_t_bytes t_size t_token t_place t_number t_name t_position t_stop t_bytes) [(0, .ref a_t), (1, .int v1), (2, .int v2)] 14 [] := by
  unfold bd_X9_readWordOrNumber_0 at hd
  refine j_aload_n (pc := 14) C dX9_readWordOrNumber_14 rfl 0 rfl ?_
  refine j_get (pc := 15) (q0 := 0) (ci := 9) (kf := 6) C dX9_readWordOrNumber_15 in_X9_readWordOrNumber_X9 rfl (by decide) fl_X9_readWordOrNumber_30 rfl rfl ?_
  refine j_aload_n (pc := 18) C dX9_readWordOrNumber_18 rfl 0 rfl ?_
  refine j_get (pc := 19) (q0 := 0) (ci := 9) (kf := 1) C dX9_readWordOrNumber_19 in_X9_readWordOrNumber_X9 rfl (by decide) fl_X9_readWordOrNumber_13 rfl rfl ?_
  refine j_icmp_ge (pc := 22) (tgt := 117) C dX9_readWordOrNumber_22 (by decide) (fun c1 => ?_) (fun c1 => ?_)
  · have hd := lp_pos c1 hd
    refine j_sub (lv2 := [(0, .ref a_t), (1, .int v1), (2, .int v2)]) [0, 1, 2] rfl ?_
    exact IH1 v1 v2 t_number t_name t_position t_token hd
  · have hd := lp_neg c1 hd
    refine j_aload_n (pc := 25) C dX9_readWordOrNumber_25 rfl 0 rfl ?_
    refine j_get (pc := 26) (q0 := 0) (ci := 9) (kf := 0) C dX9_readWordOrNumber_26 in_X9_readWordOrNumber_X9 rfl (by decide) fl_X9_readWordOrNumber_9 rfl rfl ?_
    refine j_aload_n (pc := 29) C dX9_readWordOrNumber_29 rfl 0 rfl ?_
    refine j_get (pc := 30) (q0 := 0) (ci := 9) (kf := 6) C dX9_readWordOrNumber_30 in_X9_readWordOrNumber_X9 rfl (by decide) fl_X9_readWordOrNumber_30 rfl rfl ?_
    obtain ⟨h2, hd⟩ := lp_chk hd
    refine j_bald (pc := 33) (q0 := 1) C dX9_readWordOrNumber_33 rfl h2 ?_
    refine j_istore_n (pc := 34) (lv2 := [(0, .ref a_t), (1, .int v1), (2, .int v2), (3, .int (t_bytes (t_position).toNatClampNeg))]) C dX9_readWordOrNumber_34 rfl (by decide) [1, 2, 3, 0] rfl ?_
    refine j_iload_n (pc := 35) C dX9_readWordOrNumber_35 rfl 3 rfl ?_
    refine j_bipush (pc := 36) (v := 97) C dX9_readWordOrNumber_36 jk_B97 ?_
    refine j_icmp_lt (pc := 38) (tgt := 73) C dX9_readWordOrNumber_38 (by decide) (fun c3 => ?_) (fun c3 => ?_)
    · have hd := lp_pos c3 hd
      refine j_sub (lv2 := [(0, .ref a_t), (1, .int v1), (2, .int v2), (3, .int (t_bytes (t_position).toNatClampNeg))]) [0, 1, 2, 3] rfl ?_
      exact IH2 v1 v2 (t_bytes (t_position).toNatClampNeg) t_number t_name t_position t_token hd
    · have hd := lp_neg c3 hd
      refine j_iload_n (pc := 41) C dX9_readWordOrNumber_41 rfl 3 rfl ?_
      refine j_bipush (pc := 42) (v := 122) C dX9_readWordOrNumber_42 jk_B122 ?_
      refine j_icmp_gt (pc := 44) (tgt := 73) C dX9_readWordOrNumber_44 (by decide) (fun c4 => ?_) (fun c4 => ?_)
      · have hd := lp_pos c4 hd
        refine j_sub (lv2 := [(0, .ref a_t), (1, .int v1), (2, .int v2), (3, .int (t_bytes (t_position).toNatClampNeg))]) [0, 1, 2, 3] rfl ?_
        exact IH2 v1 v2 (t_bytes (t_position).toNatClampNeg) t_number t_name t_position t_token hd
      · have hd := lp_neg c4 hd
        refine j_iinc (pc := 47) (lv2 := [(0, .ref a_t), (1, .int (v1 + 1)), (2, .int v2), (3, .int (t_bytes (t_position).toNatClampNeg))]) C dX9_readWordOrNumber_47 jk_I1 (by decide) 1 rfl [1, 0, 2, 3] rfl ?_
        refine j_aload_n (pc := 50) C dX9_readWordOrNumber_50 rfl 0 rfl ?_
        refine j_aload_n (pc := 51) C dX9_readWordOrNumber_51 rfl 0 rfl ?_
        refine j_get (pc := 52) (q0 := 0) (ci := 9) (kf := 5) C dX9_readWordOrNumber_52 in_X9_readWordOrNumber_X9 rfl (by decide) fl_X9_readWordOrNumber_26 rfl rfl ?_
        refine j_ldc2 (pc := 55) (v := 32) C dX9_readWordOrNumber_55 (List.mem_of_getElem? (i := 6) rfl) ?_
        refine j_lmul (pc := 58) C dX9_readWordOrNumber_58 ?_
        refine j_iload_n (pc := 59) C dX9_readWordOrNumber_59 rfl 3 rfl ?_
        refine j_bipush (pc := 60) (v := 97) C dX9_readWordOrNumber_60 jk_B97 ?_
        refine j_isub (pc := 62) C dX9_readWordOrNumber_62 ?_
        refine j_iconst (pc := 63) (v := 1) C dX9_readWordOrNumber_63 jk_I1 ?_
        refine j_iadd (pc := 64) C dX9_readWordOrNumber_64 ?_
        refine j_i2l (pc := 65) C dX9_readWordOrNumber_65 ?_
        refine j_ladd (pc := 66) C dX9_readWordOrNumber_66 ?_
        refine j_put (pc := 67) (q0 := 0) (ci := 9) (kf := 5) (ws2 := wd_X9_readWordOrNumber G a_t a_t_bytes t_size t_token t_place t_number ((t_name * 32) + (Int32.toInt64 (((t_bytes (t_position).toNatClampNeg) - 97) + 1))) t_position t_stop t_bytes) C dX9_readWordOrNumber_67 in_X9_readWordOrNumber_X9 tyX9 tyX9_ok nmX9 rfl (by decide) fl_X9_readWordOrNumber_26 rfl rfl rfl rfl (Nat.le_of_ble_eq_true rfl) rfl ?_
        refine j_goto (pc := 70) (tgt := 104) C dX9_readWordOrNumber_70 (by decide) ?_
        refine j_aload_n (pc := 104) C dX9_readWordOrNumber_104 rfl 0 rfl ?_
        refine j_dup (pc := 105) C dX9_readWordOrNumber_105 rfl ?_
        refine j_get (pc := 106) (q0 := 0) (ci := 9) (kf := 6) C dX9_readWordOrNumber_106 in_X9_readWordOrNumber_X9 rfl (by decide) fl_X9_readWordOrNumber_30 rfl rfl ?_
        refine j_iconst (pc := 109) (v := 1) C dX9_readWordOrNumber_109 jk_I1 ?_
        refine j_iadd (pc := 110) C dX9_readWordOrNumber_110 ?_
        refine j_put (pc := 111) (q0 := 0) (ci := 9) (kf := 6) (ws2 := wd_X9_readWordOrNumber G a_t a_t_bytes t_size t_token t_place t_number ((t_name * 32) + (Int32.toInt64 (((t_bytes (t_position).toNatClampNeg) - 97) + 1))) (t_position + 1) t_stop t_bytes) C dX9_readWordOrNumber_111 in_X9_readWordOrNumber_X9 tyX9 tyX9_ok nmX9 rfl (by decide) fl_X9_readWordOrNumber_30 rfl rfl rfl rfl (Nat.le_of_ble_eq_true rfl) rfl ?_
        refine j_goto (pc := 114) (tgt := 14) C dX9_readWordOrNumber_114 (by decide) ?_
        refine j_sub (lv2 := [(0, .ref a_t), (1, .int (v1 + 1)), (2, .int v2)]) [0, 1, 2] rfl ?_
        exact IH0 (v1 + 1) v2 t_number ((t_name * 32) + (Int32.toInt64 (((t_bytes (t_position).toNatClampNeg) - 97) + 1))) (t_position + 1) t_token hd
set_option maxHeartbeats 8000000 in
set_option maxRecDepth 100000 in
theorem lb_X9_readWordOrNumber_1 (l : Launch) (G : jG) (a_t : Nat) (a_t_bytes : Nat) (t_size : Int32) (t_place : Int32) (t_stop : Int32) (t_bytes : Nat → Int32)  (X : jX) (C : jC X l G 5 rm_X9_readWordOrNumber cX9_readWordOrNumber RX9 wsX9_readWordOrNumber) (r : Int32 × Int64 × Int32 × Int32) (hE : jE X none none (wd_X9_readWordOrNumber G a_t a_t_bytes t_size r.2.2.2 t_place r.1 r.2.1 r.2.2.1 t_stop t_bytes)) (n : Nat) (IH3 : ∀ (v1 : Int32) (v2 : Int32) (k0 : Int32) (t_number : Int32) (t_name : Int64) (t_position : Int32) (t_token : Int32), lpN (st_X9_readWordOrNumber t_size t_bytes) n (.inr (.inr (.inr (.inl (v1, v2, k0, t_number, t_name, t_position, t_token))))) = some r → J X 0 0 (wd_X9_readWordOrNumber G a_t a_t_bytes t_size t_token t_place t_number t_name t_position t_stop t_bytes) [(0, .ref a_t), (1, .int v1), (2, .int v2)] 132 [.int k0]) (v1 : Int32) (v2 : Int32) (t_number : Int32) (t_name : Int64) (t_position : Int32) (t_token : Int32) (hd : lpR (st_X9_readWordOrNumber t_size t_bytes) n (bd_X9_readWordOrNumber_1 t_size t_bytes v1 v2 t_number t_name t_position t_token) = some r) : J X 0 0 (wd_X9_readWordOrNumber G a_t a_t_bytes t_size t_token t_place t_number t_name t_position t_stop t_bytes) [(0, .ref a_t), (1, .int v1), (2, .int v2)] 117 [] := by
  unfold bd_X9_readWordOrNumber_1 at hd
  refine j_iload_n (pc := 117) C dX9_readWordOrNumber_117 rfl 2 rfl ?_
  refine j_if_ne (pc := 118) (tgt := 131) C dX9_readWordOrNumber_118 (by decide) (fun c5 => ?_) (fun c5 => ?_)
  · have hd := lp_neg c5 hd
    refine j_iconst (pc := 131) (v := 0) C dX9_readWordOrNumber_131 jk_I0 ?_
    refine j_sub (lv2 := [(0, .ref a_t), (1, .int v1), (2, .int v2)]) [0, 1, 2] rfl ?_
    exact IH3 v1 v2 0 t_number t_name t_position t_token hd
  · have hd := lp_pos c5 hd
    refine j_iload_n (pc := 121) C dX9_readWordOrNumber_121 rfl 1 rfl ?_
    refine j_bipush (pc := 122) (v := 7) C dX9_readWordOrNumber_122 jk_B7 ?_
    refine j_icmp_gt (pc := 124) (tgt := 131) C dX9_readWordOrNumber_124 (by decide) (fun c6 => ?_) (fun c6 => ?_)
    · have hd := lp_pos c6 hd
      refine j_iconst (pc := 131) (v := 0) C dX9_readWordOrNumber_131 jk_I0 ?_
      refine j_sub (lv2 := [(0, .ref a_t), (1, .int v1), (2, .int v2)]) [0, 1, 2] rfl ?_
      exact IH3 v1 v2 0 t_number t_name t_position t_token hd
    · have hd := lp_neg c6 hd
      refine j_iconst (pc := 127) (v := 1) C dX9_readWordOrNumber_127 jk_I1 ?_
      refine j_goto (pc := 128) (tgt := 132) C dX9_readWordOrNumber_128 (by decide) ?_
      refine j_sub (lv2 := [(0, .ref a_t), (1, .int v1), (2, .int v2)]) [0, 1, 2] rfl ?_
      exact IH3 v1 v2 1 t_number t_name t_position t_token hd
set_option maxHeartbeats 8000000 in
set_option maxRecDepth 100000 in
theorem lb_X9_readWordOrNumber_2 (l : Launch) (G : jG) (a_t : Nat) (a_t_bytes : Nat) (t_size : Int32) (t_place : Int32) (t_stop : Int32) (t_bytes : Nat → Int32)  (X : jX) (C : jC X l G 5 rm_X9_readWordOrNumber cX9_readWordOrNumber RX9 wsX9_readWordOrNumber) (r : Int32 × Int64 × Int32 × Int32) (hE : jE X none none (wd_X9_readWordOrNumber G a_t a_t_bytes t_size r.2.2.2 t_place r.1 r.2.1 r.2.2.1 t_stop t_bytes)) (n : Nat) (IH0 : ∀ (v1 : Int32) (v2 : Int32) (t_number : Int32) (t_name : Int64) (t_position : Int32) (t_token : Int32), lpN (st_X9_readWordOrNumber t_size t_bytes) n (.inl (v1, v2, t_number, t_name, t_position, t_token)) = some r → J X 0 0 (wd_X9_readWordOrNumber G a_t a_t_bytes t_size t_token t_place t_number t_name t_position t_stop t_bytes) [(0, .ref a_t), (1, .int v1), (2, .int v2)] 14 []) (IH1 : ∀ (v1 : Int32) (v2 : Int32) (t_number : Int32) (t_name : Int64) (t_position : Int32) (t_token : Int32), lpN (st_X9_readWordOrNumber t_size t_bytes) n (.inr (.inl (v1, v2, t_number, t_name, t_position, t_token))) = some r → J X 0 0 (wd_X9_readWordOrNumber G a_t a_t_bytes t_size t_token t_place t_number t_name t_position t_stop t_bytes) [(0, .ref a_t), (1, .int v1), (2, .int v2)] 117 []) (v1 : Int32) (v2 : Int32) (v3 : Int32) (t_number : Int32) (t_name : Int64) (t_position : Int32) (t_token : Int32) (hd : lpR (st_X9_readWordOrNumber t_size t_bytes) n (bd_X9_readWordOrNumber_2 t_size t_bytes v1 v2 v3 t_number t_name t_position t_token) = some r) : J X 0 0 (wd_X9_readWordOrNumber G a_t a_t_bytes t_size t_token t_place t_number t_name t_position t_stop t_bytes) [(0, .ref a_t), (1, .int v1), (2, .int v2), (3, .int v3)] 73 [] := by
  unfold bd_X9_readWordOrNumber_2 at hd
  refine j_iload_n (pc := 73) C dX9_readWordOrNumber_73 rfl 3 rfl ?_
  refine j_bipush (pc := 74) (v := 48) C dX9_readWordOrNumber_74 jk_B48 ?_
  refine j_icmp_lt (pc := 76) (tgt := 117) C dX9_readWordOrNumber_76 (by decide) (fun c7 => ?_) (fun c7 => ?_)
  · have hd := lp_pos c7 hd
    refine j_sub (lv2 := [(0, .ref a_t), (1, .int v1), (2, .int v2)]) [0, 1, 2] rfl ?_
    exact IH1 v1 v2 t_number t_name t_position t_token hd
  · have hd := lp_neg c7 hd
    refine j_iload_n (pc := 79) C dX9_readWordOrNumber_79 rfl 3 rfl ?_
    refine j_bipush (pc := 80) (v := 57) C dX9_readWordOrNumber_80 jk_B57 ?_
    refine j_icmp_gt (pc := 82) (tgt := 117) C dX9_readWordOrNumber_82 (by decide) (fun c8 => ?_) (fun c8 => ?_)
    · have hd := lp_pos c8 hd
      refine j_sub (lv2 := [(0, .ref a_t), (1, .int v1), (2, .int v2)]) [0, 1, 2] rfl ?_
      exact IH1 v1 v2 t_number t_name t_position t_token hd
    · have hd := lp_neg c8 hd
      refine j_iinc (pc := 85) (lv2 := [(0, .ref a_t), (1, .int v1), (2, .int (v2 + 1)), (3, .int v3)]) C dX9_readWordOrNumber_85 jk_I1 (by decide) 2 rfl [1, 2, 0, 3] rfl ?_
      refine j_aload_n (pc := 88) C dX9_readWordOrNumber_88 rfl 0 rfl ?_
      refine j_aload_n (pc := 89) C dX9_readWordOrNumber_89 rfl 0 rfl ?_
      refine j_get (pc := 90) (q0 := 0) (ci := 9) (kf := 4) C dX9_readWordOrNumber_90 in_X9_readWordOrNumber_X9 rfl (by decide) fl_X9_readWordOrNumber_23 rfl rfl ?_
      refine j_bipush (pc := 93) (v := 10) C dX9_readWordOrNumber_93 jk_B10 ?_
      refine j_imul (pc := 95) C dX9_readWordOrNumber_95 ?_
      refine j_iload_n (pc := 96) C dX9_readWordOrNumber_96 rfl 3 rfl ?_
      refine j_bipush (pc := 97) (v := 48) C dX9_readWordOrNumber_97 jk_B48 ?_
      refine j_isub (pc := 99) C dX9_readWordOrNumber_99 ?_
      refine j_iadd (pc := 100) C dX9_readWordOrNumber_100 ?_
      refine j_put (pc := 101) (q0 := 0) (ci := 9) (kf := 4) (ws2 := wd_X9_readWordOrNumber G a_t a_t_bytes t_size t_token t_place ((t_number * 10) + (v3 - 48)) t_name t_position t_stop t_bytes) C dX9_readWordOrNumber_101 in_X9_readWordOrNumber_X9 tyX9 tyX9_ok nmX9 rfl (by decide) fl_X9_readWordOrNumber_23 rfl rfl rfl rfl (Nat.le_of_ble_eq_true rfl) rfl ?_
      refine j_aload_n (pc := 104) C dX9_readWordOrNumber_104 rfl 0 rfl ?_
      refine j_dup (pc := 105) C dX9_readWordOrNumber_105 rfl ?_
      refine j_get (pc := 106) (q0 := 0) (ci := 9) (kf := 6) C dX9_readWordOrNumber_106 in_X9_readWordOrNumber_X9 rfl (by decide) fl_X9_readWordOrNumber_30 rfl rfl ?_
      refine j_iconst (pc := 109) (v := 1) C dX9_readWordOrNumber_109 jk_I1 ?_
      refine j_iadd (pc := 110) C dX9_readWordOrNumber_110 ?_
      refine j_put (pc := 111) (q0 := 0) (ci := 9) (kf := 6) (ws2 := wd_X9_readWordOrNumber G a_t a_t_bytes t_size t_token t_place ((t_number * 10) + (v3 - 48)) t_name (t_position + 1) t_stop t_bytes) C dX9_readWordOrNumber_111 in_X9_readWordOrNumber_X9 tyX9 tyX9_ok nmX9 rfl (by decide) fl_X9_readWordOrNumber_30 rfl rfl rfl rfl (Nat.le_of_ble_eq_true rfl) rfl ?_
      refine j_goto (pc := 114) (tgt := 14) C dX9_readWordOrNumber_114 (by decide) ?_
      refine j_sub (lv2 := [(0, .ref a_t), (1, .int v1), (2, .int (v2 + 1))]) [0, 1, 2] rfl ?_
      exact IH0 v1 (v2 + 1) ((t_number * 10) + (v3 - 48)) t_name (t_position + 1) t_token hd
set_option maxHeartbeats 8000000 in
set_option maxRecDepth 100000 in
theorem lb_X9_readWordOrNumber_3 (l : Launch) (G : jG) (a_t : Nat) (a_t_bytes : Nat) (t_size : Int32) (t_place : Int32) (t_stop : Int32) (t_bytes : Nat → Int32)  (X : jX) (C : jC X l G 5 rm_X9_readWordOrNumber cX9_readWordOrNumber RX9 wsX9_readWordOrNumber) (r : Int32 × Int64 × Int32 × Int32) (hE : jE X none none (wd_X9_readWordOrNumber G a_t a_t_bytes t_size r.2.2.2 t_place r.1 r.2.1 r.2.2.1 t_stop t_bytes)) (n : Nat) (IH4 : ∀ (v3 : Int32) (k0 : Int32) (t_number : Int32) (t_name : Int64) (t_position : Int32) (t_token : Int32), lpN (st_X9_readWordOrNumber t_size t_bytes) n (.inr (.inr (.inr (.inr ((v3, k0, t_number, t_name, t_position, t_token)))))) = some r → J X 0 0 (wd_X9_readWordOrNumber G a_t a_t_bytes t_size t_token t_place t_number t_name t_position t_stop t_bytes) [(0, .ref a_t), (3, .int v3)] 147 [.int k0]) (v1 : Int32) (v2 : Int32) (k0 : Int32) (t_number : Int32) (t_name : Int64) (t_position : Int32) (t_token : Int32) (hd : lpR (st_X9_readWordOrNumber t_size t_bytes) n (bd_X9_readWordOrNumber_3 t_size t_bytes v1 v2 k0 t_number t_name t_position t_token) = some r) : J X 0 0 (wd_X9_readWordOrNumber G a_t a_t_bytes t_size t_token t_place t_number t_name t_position t_stop t_bytes) [(0, .ref a_t), (1, .int v1), (2, .int v2)] 132 [.int k0] := by
  unfold bd_X9_readWordOrNumber_3 at hd
  refine j_istore_n (pc := 132) (lv2 := [(0, .ref a_t), (1, .int v1), (2, .int v2), (3, .int k0)]) C dX9_readWordOrNumber_132 rfl (by decide) [1, 2, 3, 0] rfl ?_
  refine j_iload_n (pc := 133) C dX9_readWordOrNumber_133 rfl 1 rfl ?_
  refine j_if_ne (pc := 134) (tgt := 146) C dX9_readWordOrNumber_134 (by decide) (fun c9 => ?_) (fun c9 => ?_)
  · have hd := lp_neg c9 hd
    refine j_iconst (pc := 146) (v := 0) C dX9_readWordOrNumber_146 jk_I0 ?_
    refine j_sub (lv2 := [(0, .ref a_t), (3, .int k0)]) [0, 3] rfl ?_
    exact IH4 k0 0 t_number t_name t_position t_token hd
  · have hd := lp_pos c9 hd
    refine j_iload_n (pc := 137) C dX9_readWordOrNumber_137 rfl 2 rfl ?_
    refine j_iconst (pc := 138) (v := 2) C dX9_readWordOrNumber_138 jk_I2 ?_
    refine j_icmp_gt (pc := 139) (tgt := 146) C dX9_readWordOrNumber_139 (by decide) (fun c10 => ?_) (fun c10 => ?_)
    · have hd := lp_pos c10 hd
      refine j_iconst (pc := 146) (v := 0) C dX9_readWordOrNumber_146 jk_I0 ?_
      refine j_sub (lv2 := [(0, .ref a_t), (3, .int k0)]) [0, 3] rfl ?_
      exact IH4 k0 0 t_number t_name t_position t_token hd
    · have hd := lp_neg c10 hd
      refine j_iconst (pc := 142) (v := 1) C dX9_readWordOrNumber_142 jk_I1 ?_
      refine j_goto (pc := 143) (tgt := 147) C dX9_readWordOrNumber_143 (by decide) ?_
      refine j_sub (lv2 := [(0, .ref a_t), (3, .int k0)]) [0, 3] rfl ?_
      exact IH4 k0 1 t_number t_name t_position t_token hd
set_option maxHeartbeats 8000000 in
set_option maxRecDepth 100000 in
theorem lb_X9_readWordOrNumber_4 (l : Launch) (G : jG) (a_t : Nat) (a_t_bytes : Nat) (t_size : Int32) (t_place : Int32) (t_stop : Int32) (t_bytes : Nat → Int32)  (X : jX) (C : jC X l G 5 rm_X9_readWordOrNumber cX9_readWordOrNumber RX9 wsX9_readWordOrNumber) (r : Int32 × Int64 × Int32 × Int32) (hE : jE X none none (wd_X9_readWordOrNumber G a_t a_t_bytes t_size r.2.2.2 t_place r.1 r.2.1 r.2.2.1 t_stop t_bytes)) (n : Nat)  (v3 : Int32) (k0 : Int32) (t_number : Int32) (t_name : Int64) (t_position : Int32) (t_token : Int32) (hd : lpR (st_X9_readWordOrNumber t_size t_bytes) n (bd_X9_readWordOrNumber_4 t_size t_bytes v3 k0 t_number t_name t_position t_token) = some r) : J X 0 0 (wd_X9_readWordOrNumber G a_t a_t_bytes t_size t_token t_place t_number t_name t_position t_stop t_bytes) [(0, .ref a_t), (3, .int v3)] 147 [.int k0] := by
  unfold bd_X9_readWordOrNumber_4 at hd
  refine j_istore (pc := 147) (lv2 := [(0, .ref a_t), (3, .int v3), (4, .int k0)]) C dX9_readWordOrNumber_147 (by decide) [1, 2, 0] rfl ?_
  refine j_aload_n (pc := 149) C dX9_readWordOrNumber_149 rfl 0 rfl ?_
  refine j_iload_n (pc := 150) C dX9_readWordOrNumber_150 rfl 1 rfl ?_
  refine j_if_eq (pc := 151) (tgt := 158) C dX9_readWordOrNumber_151 (by decide) (fun c11 => ?_) (fun c11 => ?_)
  · have hd := lp_pos c11 hd
    refine j_iload (pc := 158) C dX9_readWordOrNumber_158 2 rfl ?_
    refine j_if_eq (pc := 160) (tgt := 167) C dX9_readWordOrNumber_160 (by decide) (fun c12 => ?_) (fun c12 => ?_)
    · have hd := lp_pos c12 hd
      refine j_iconst (pc := 167) (v := 4) C dX9_readWordOrNumber_167 jk_I4 ?_
      refine j_put (pc := 168) (q0 := 0) (ci := 9) (kf := 2) (ws2 := wd_X9_readWordOrNumber G a_t a_t_bytes t_size 4 t_place t_number t_name t_position t_stop t_bytes) C dX9_readWordOrNumber_168 in_X9_readWordOrNumber_X9 tyX9 tyX9_ok nmX9 rfl (by decide) fl_X9_readWordOrNumber_17 rfl rfl rfl rfl (Nat.le_of_ble_eq_true rfl) rfl ?_
      obtain rfl := Option.some.inj hd
      exact j_vret (pc := 171) C hE dX9_readWordOrNumber_171 rfl rfl
    · have hd := lp_neg c12 hd
      refine j_iconst (pc := 163) (v := 2) C dX9_readWordOrNumber_163 jk_I2 ?_
      refine j_goto (pc := 164) (tgt := 168) C dX9_readWordOrNumber_164 (by decide) ?_
      refine j_put (pc := 168) (q0 := 0) (ci := 9) (kf := 2) (ws2 := wd_X9_readWordOrNumber G a_t a_t_bytes t_size 2 t_place t_number t_name t_position t_stop t_bytes) C dX9_readWordOrNumber_168 in_X9_readWordOrNumber_X9 tyX9 tyX9_ok nmX9 rfl (by decide) fl_X9_readWordOrNumber_17 rfl rfl rfl rfl (Nat.le_of_ble_eq_true rfl) rfl ?_
      obtain rfl := Option.some.inj hd
      exact j_vret (pc := 171) C hE dX9_readWordOrNumber_171 rfl rfl
  · have hd := lp_neg c11 hd
    refine j_iconst (pc := 154) (v := 1) C dX9_readWordOrNumber_154 jk_I1 ?_
    refine j_goto (pc := 155) (tgt := 168) C dX9_readWordOrNumber_155 (by decide) ?_
    refine j_put (pc := 168) (q0 := 0) (ci := 9) (kf := 2) (ws2 := wd_X9_readWordOrNumber G a_t a_t_bytes t_size 1 t_place t_number t_name t_position t_stop t_bytes) C dX9_readWordOrNumber_168 in_X9_readWordOrNumber_X9 tyX9 tyX9_ok nmX9 rfl (by decide) fl_X9_readWordOrNumber_17 rfl rfl rfl rfl (Nat.le_of_ble_eq_true rfl) rfl ?_
    obtain rfl := Option.some.inj hd
    exact j_vret (pc := 171) C hE dX9_readWordOrNumber_171 rfl rfl
set_option maxHeartbeats 8000000 in
set_option maxRecDepth 100000 in
theorem la_X9_readWordOrNumber (l : Launch) (G : jG) (a_t : Nat) (a_t_bytes : Nat) (t_size : Int32) (t_place : Int32) (t_stop : Int32) (t_bytes : Nat → Int32)  (X : jX) (C : jC X l G 5 rm_X9_readWordOrNumber cX9_readWordOrNumber RX9 wsX9_readWordOrNumber) (r : Int32 × Int64 × Int32 × Int32) (hE : jE X none none (wd_X9_readWordOrNumber G a_t a_t_bytes t_size r.2.2.2 t_place r.1 r.2.1 r.2.2.1 t_stop t_bytes)) (n : Nat) : (∀ (v1 : Int32) (v2 : Int32) (t_number : Int32) (t_name : Int64) (t_position : Int32) (t_token : Int32), lpN (st_X9_readWordOrNumber t_size t_bytes) n (.inl (v1, v2, t_number, t_name, t_position, t_token)) = some r → J X 0 0 (wd_X9_readWordOrNumber G a_t a_t_bytes t_size t_token t_place t_number t_name t_position t_stop t_bytes) [(0, .ref a_t), (1, .int v1), (2, .int v2)] 14 []) ∧ (∀ (v1 : Int32) (v2 : Int32) (t_number : Int32) (t_name : Int64) (t_position : Int32) (t_token : Int32), lpN (st_X9_readWordOrNumber t_size t_bytes) n (.inr (.inl (v1, v2, t_number, t_name, t_position, t_token))) = some r → J X 0 0 (wd_X9_readWordOrNumber G a_t a_t_bytes t_size t_token t_place t_number t_name t_position t_stop t_bytes) [(0, .ref a_t), (1, .int v1), (2, .int v2)] 117 []) ∧ (∀ (v1 : Int32) (v2 : Int32) (v3 : Int32) (t_number : Int32) (t_name : Int64) (t_position : Int32) (t_token : Int32), lpN (st_X9_readWordOrNumber t_size t_bytes) n (.inr (.inr (.inl (v1, v2, v3, t_number, t_name, t_position, t_token)))) = some r → J X 0 0 (wd_X9_readWordOrNumber G a_t a_t_bytes t_size t_token t_place t_number t_name t_position t_stop t_bytes) [(0, .ref a_t), (1, .int v1), (2, .int v2), (3, .int v3)] 73 []) ∧ (∀ (v1 : Int32) (v2 : Int32) (k0 : Int32) (t_number : Int32) (t_name : Int64) (t_position : Int32) (t_token : Int32), lpN (st_X9_readWordOrNumber t_size t_bytes) n (.inr (.inr (.inr (.inl (v1, v2, k0, t_number, t_name, t_position, t_token))))) = some r → J X 0 0 (wd_X9_readWordOrNumber G a_t a_t_bytes t_size t_token t_place t_number t_name t_position t_stop t_bytes) [(0, .ref a_t), (1, .int v1), (2, .int v2)] 132 [.int k0]) ∧ (∀ (v3 : Int32) (k0 : Int32) (t_number : Int32) (t_name : Int64) (t_position : Int32) (t_token : Int32), lpN (st_X9_readWordOrNumber t_size t_bytes) n (.inr (.inr (.inr (.inr ((v3, k0, t_number, t_name, t_position, t_token)))))) = some r → J X 0 0 (wd_X9_readWordOrNumber G a_t a_t_bytes t_size t_token t_place t_number t_name t_position t_stop t_bytes) [(0, .ref a_t), (3, .int v3)] 147 [.int k0]) := by
  induction n with
  | zero => exact ⟨(fun v1 v2 t_number t_name t_position t_token h => by cases h), (fun v1 v2 t_number t_name t_position t_token h => by cases h), (fun v1 v2 v3 t_number t_name t_position t_token h => by cases h), (fun v1 v2 k0 t_number t_name t_position t_token h => by cases h), (fun v3 k0 t_number t_name t_position t_token h => by cases h)⟩
  | succ n ih => exact ⟨(fun v1 v2 t_number t_name t_position t_token h => lb_X9_readWordOrNumber_0 l G a_t a_t_bytes t_size t_place t_stop t_bytes X C r hE n (ih.1) (ih.2.1) (ih.2.2.1) v1 v2 t_number t_name t_position t_token (by rw [lpN_succ] at h; exact h)), (fun v1 v2 t_number t_name t_position t_token h => lb_X9_readWordOrNumber_1 l G a_t a_t_bytes t_size t_place t_stop t_bytes X C r hE n (ih.2.2.2.1) v1 v2 t_number t_name t_position t_token (by rw [lpN_succ] at h; exact h)), (fun v1 v2 v3 t_number t_name t_position t_token h => lb_X9_readWordOrNumber_2 l G a_t a_t_bytes t_size t_place t_stop t_bytes X C r hE n (ih.1) (ih.2.1) v1 v2 v3 t_number t_name t_position t_token (by rw [lpN_succ] at h; exact h)), (fun v1 v2 k0 t_number t_name t_position t_token h => lb_X9_readWordOrNumber_3 l G a_t a_t_bytes t_size t_place t_stop t_bytes X C r hE n (ih.2.2.2.2) v1 v2 k0 t_number t_name t_position t_token (by rw [lpN_succ] at h; exact h)), (fun v3 k0 t_number t_name t_position t_token h => lb_X9_readWordOrNumber_4 l G a_t a_t_bytes t_size t_place t_stop t_bytes X C r hE n  v3 k0 t_number t_name t_position t_token (by rw [lpN_succ] at h; exact h))⟩
set_option maxHeartbeats 8000000 in
set_option maxRecDepth 100000 in
theorem ct_X9_readWordOrNumber (l : Launch) (G : jG) (a_t : Nat) (a_t_bytes : Nat) (t_size : Int32) (t_token : Int32) (t_place : Int32) (t_number : Int32) (t_name : Int64) (t_position : Int32) (t_stop : Int32) (t_bytes : Nat → Int32)  (r : Int32 × Int64 × Int32 × Int32) (hd : dn_X9_readWordOrNumber t_size t_token t_position t_bytes = some r) : jM l G yX9_readWordOrNumber wsX9_readWordOrNumber rm_X9_readWordOrNumber [.ref a_t] (wd_X9_readWordOrNumber G a_t a_t_bytes t_size t_token t_place t_number t_name t_position t_stop t_bytes) none (wd_X9_readWordOrNumber G a_t a_t_bytes t_size r.2.2.2 t_place r.1 r.2.1 r.2.2.1 t_stop t_bytes) := by
  refine jM_of (own := RX9) (by decide) rfl rfl rfl (Nat.le_of_ble_eq_true rfl) (lv0 := [(0, .ref a_t)]) rfl (fun X C hE => ?_)
  unfold dn_X9_readWordOrNumber at hd
  refine j_iconst (pc := 0) (v := 0) C dX9_readWordOrNumber_0 jk_I0 ?_
  refine j_istore_n (pc := 1) (lv2 := [(0, .ref a_t), (1, .int 0)]) C dX9_readWordOrNumber_1 rfl (by decide) [1, 0] rfl ?_
  refine j_iconst (pc := 2) (v := 0) C dX9_readWordOrNumber_2 jk_I0 ?_
  refine j_istore_n (pc := 3) (lv2 := [(0, .ref a_t), (1, .int 0), (2, .int 0)]) C dX9_readWordOrNumber_3 rfl (by decide) [1, 2, 0] rfl ?_
  refine j_aload_n (pc := 4) C dX9_readWordOrNumber_4 rfl 0 rfl ?_
  refine j_iconst (pc := 5) (v := 0) C dX9_readWordOrNumber_5 jk_I0 ?_
  refine j_put (pc := 6) (q0 := 0) (ci := 9) (kf := 4) (ws2 := wd_X9_readWordOrNumber G a_t a_t_bytes t_size t_token t_place 0 t_name t_position t_stop t_bytes) C dX9_readWordOrNumber_6 in_X9_readWordOrNumber_X9 tyX9 tyX9_ok nmX9 rfl (by decide) fl_X9_readWordOrNumber_23 rfl rfl rfl rfl (Nat.le_of_ble_eq_true rfl) rfl ?_
  refine j_aload_n (pc := 9) C dX9_readWordOrNumber_9 rfl 0 rfl ?_
  refine j_lconst (pc := 10) (v := 0) C dX9_readWordOrNumber_10 (by decide) ?_
  refine j_put (pc := 11) (q0 := 0) (ci := 9) (kf := 5) (ws2 := wd_X9_readWordOrNumber G a_t a_t_bytes t_size t_token t_place 0 0 t_position t_stop t_bytes) C dX9_readWordOrNumber_11 in_X9_readWordOrNumber_X9 tyX9 tyX9_ok nmX9 rfl (by decide) fl_X9_readWordOrNumber_26 rfl rfl rfl rfl (Nat.le_of_ble_eq_true rfl) rfl ?_
  refine j_sub (lv2 := [(0, .ref a_t), (1, .int 0), (2, .int 0)]) [0, 1, 2] rfl ?_
  obtain ⟨n, hn⟩ := lpC_ex hd
  exact (la_X9_readWordOrNumber l G a_t a_t_bytes t_size t_place t_stop t_bytes X C r hE n).1 0 0 0 0 t_position t_token hn
/-! ##### LendTown$Tape.next()V -/
abbrev rm_X9_next : Room := { frames := 1, cells := 0, slots := 0, locals := 24 }
theorem jy_X9_next : jY yX9_next wsX9_next rm_X9_next cX9_next 1 none 0 := ⟨⟨_, rfl⟩, ⟨rfl, rfl⟩, by decide, by decide, by decide +kernel⟩
theorem in_X9_next_X9 : ∀ w ∈ u_ws RX9 TX9 8, w ∈ wsX9_next := fun w h => List.mem_cons_of_mem _ (List.mem_append_right _ (h))
theorem fl_X9_next_30 : Cond.fieldLink RX9 30 "LendTown$Tape" "position" "I" ∈ wsX9_next := List.mem_of_getElem? (i := 1) rfl
theorem fl_X9_next_33 : Cond.fieldLink RX9 33 "LendTown$Tape" "stop" "I" ∈ wsX9_next := List.mem_of_getElem? (i := 2) rfl
theorem fl_X9_next_9 : Cond.fieldLink RX9 9 "LendTown$Tape" "bytes" "[B" ∈ wsX9_next := List.mem_of_getElem? (i := 3) rfl
theorem fl_X9_next_20 : Cond.fieldLink RX9 20 "LendTown$Tape" "place" "I" ∈ wsX9_next := List.mem_of_getElem? (i := 5) rfl
theorem fl_X9_next_17 : Cond.fieldLink RX9 17 "LendTown$Tape" "token" "I" ∈ wsX9_next := List.mem_of_getElem? (i := 4) rfl
def wd_X9_next (G : jG) (a_t : Nat) (a_t_bytes : Nat) (t_size : Int32) (t_token : Int32) (t_place : Int32) (t_number : Int32) (t_name : Int64) (t_position : Int32) (t_stop : Int32) (t_bytes : Nat → Int32) : va_W := [(a_t, .inr (9, [.ref a_t_bytes, .int t_size, .int t_token, .int t_place, .int t_number, .long t_name, .int t_position, .int t_stop])), (a_t_bytes, .inl (G.2.1, 940, .inl t_bytes))]
set_option maxHeartbeats 8000000 in
set_option maxRecDepth 100000 in
theorem lb_X9_next_0 (l : Launch) (G : jG) (a_t : Nat) (a_t_bytes : Nat) (t_size : Int32) (t_stop : Int32) (t_bytes : Nat → Int32)  (X : jX) (C : jC X l G 1 rm_X9_next cX9_next RX9 wsX9_next) (r : Int32 × Int32 × Int32 × Int64 × Int32) (hE : jE X none none (wd_X9_next G a_t a_t_bytes t_size r.2.2.2.2 r.2.1 r.2.2.1 r.2.2.2.1 r.1 t_stop t_bytes)) (n : Nat)  (t_position : Int32) (t_place : Int32) (t_number : Int32) (t_name : Int64) (t_token : Int32) (hd : lpR (st_X9_next t_size t_stop t_bytes) n (bd_X9_next_0 t_size t_stop t_bytes t_position t_place t_number t_name t_token) = some r) : J X 0 0 (wd_X9_next G a_t a_t_bytes t_size t_token t_place t_number t_name t_position t_stop t_bytes) [(0, .ref a_t)] 52 [] := by
  unfold bd_X9_next_0 at hd
  refine j_aload_n (pc := 52) C dX9_next_52 rfl 0 rfl ?_
  refine j_get (pc := 53) (q0 := 0) (ci := 9) (kf := 6) C dX9_next_53 in_X9_next_X9 rfl (by decide) fl_X9_next_30 rfl rfl ?_
  refine j_aload_n (pc := 56) C dX9_next_56 rfl 0 rfl ?_
  refine j_get (pc := 57) (q0 := 0) (ci := 9) (kf := 7) C dX9_next_57 in_X9_next_X9 rfl (by decide) fl_X9_next_33 rfl rfl ?_
  refine j_icmp_lt (pc := 60) (tgt := 77) C dX9_next_60 (by decide) (fun c6 => ?_) (fun c6 => ?_)
  · have hd := lp_pos c6 hd
    refine j_aload_n (pc := 77) C dX9_next_77 rfl 0 rfl ?_
    refine j_aload_n (pc := 78) C dX9_next_78 rfl 0 rfl ?_
    refine j_get (pc := 79) (q0 := 0) (ci := 9) (kf := 6) C dX9_next_79 in_X9_next_X9 rfl (by decide) fl_X9_next_30 rfl rfl ?_
    refine j_put (pc := 82) (q0 := 0) (ci := 9) (kf := 3) (ws2 := wd_X9_next G a_t a_t_bytes t_size t_token t_position t_number t_name t_position t_stop t_bytes) C dX9_next_82 in_X9_next_X9 tyX9 tyX9_ok nmX9 rfl (by decide) fl_X9_next_20 rfl rfl rfl rfl (Nat.le_of_ble_eq_true rfl) rfl ?_
    refine j_aload_n (pc := 85) C dX9_next_85 rfl 0 rfl ?_
    obtain ⟨q7, eq7, hd⟩ := lp_bind hd
    refine j_callV (pc := 86) (q0 := 0) (ci := 9) (As := []) (rest := []) (st2 := []) (ws2 := wd_X9_next G a_t a_t_bytes t_size q7.2.2.2 t_position q7.1 q7.2.1 q7.2.2.1 t_stop t_bytes) C (ct_X9_readWordOrNumber l G a_t a_t_bytes t_size t_token t_position t_number t_name t_position t_stop t_bytes q7 eq7) jy_X9_readWordOrNumber dX9_next_86 gX9_next_X9_readWordOrNumber rfl rfl (by decide) ⟨Nat.zero_le _, Nat.zero_le _⟩ [0, 1] rfl rfl (jpt_eq rfl rfl rfl) rfl rfl rfl (Nat.le_of_ble_eq_true rfl) rfl ?_
    refine j_aload_n (pc := 89) C dX9_next_89 rfl 0 rfl ?_
    refine j_get (pc := 90) (q0 := 0) (ci := 9) (kf := 6) C dX9_next_90 in_X9_next_X9 rfl (by decide) fl_X9_next_30 rfl rfl ?_
    refine j_aload_n (pc := 93) C dX9_next_93 rfl 0 rfl ?_
    refine j_get (pc := 94) (q0 := 0) (ci := 9) (kf := 3) C dX9_next_94 in_X9_next_X9 rfl (by decide) fl_X9_next_20 rfl rfl ?_
    refine j_icmp_ne (pc := 97) (tgt := 133) C dX9_next_97 (by decide) (fun c8 => ?_) (fun c8 => ?_)
    · have hd := lp_neg c8 hd
      obtain rfl := Option.some.inj hd
      exact j_vret (pc := 133) C hE dX9_next_133 rfl rfl
    · have hd := lp_pos c8 hd
      refine j_aload_n (pc := 100) C dX9_next_100 rfl 0 rfl ?_
      refine j_aload_n (pc := 101) C dX9_next_101 rfl 0 rfl ?_
      refine j_get (pc := 102) (q0 := 0) (ci := 9) (kf := 0) C dX9_next_102 in_X9_next_X9 rfl (by decide) fl_X9_next_9 rfl rfl ?_
      refine j_aload_n (pc := 105) C dX9_next_105 rfl 0 rfl ?_
      refine j_get (pc := 106) (q0 := 0) (ci := 9) (kf := 6) C dX9_next_106 in_X9_next_X9 rfl (by decide) fl_X9_next_30 rfl rfl ?_
      obtain ⟨h9, hd⟩ := lp_chk hd
      refine j_bald (pc := 109) (q0 := 1) C dX9_next_109 rfl h9 ?_
      refine j_bipush (pc := 110) (v := 59) C dX9_next_110 jk_B59 ?_
      refine j_icmp_ne (pc := 112) (tgt := 119) C dX9_next_112 (by decide) (fun c10 => ?_) (fun c10 => ?_)
      · have hd := lp_neg c10 hd
        refine j_iconst (pc := 119) (v := 4) C dX9_next_119 jk_I4 ?_
        refine j_put (pc := 120) (q0 := 0) (ci := 9) (kf := 2) (ws2 := wd_X9_next G a_t a_t_bytes t_size 4 t_position q7.1 q7.2.1 q7.2.2.1 t_stop t_bytes) C dX9_next_120 in_X9_next_X9 tyX9 tyX9_ok nmX9 rfl (by decide) fl_X9_next_17 rfl rfl rfl rfl (Nat.le_of_ble_eq_true rfl) rfl ?_
        refine j_aload_n (pc := 123) C dX9_next_123 rfl 0 rfl ?_
        refine j_dup (pc := 124) C dX9_next_124 rfl ?_
        refine j_get (pc := 125) (q0 := 0) (ci := 9) (kf := 6) C dX9_next_125 in_X9_next_X9 rfl (by decide) fl_X9_next_30 rfl rfl ?_
        refine j_iconst (pc := 128) (v := 1) C dX9_next_128 jk_I1 ?_
        refine j_iadd (pc := 129) C dX9_next_129 ?_
        refine j_put (pc := 130) (q0 := 0) (ci := 9) (kf := 6) (ws2 := wd_X9_next G a_t a_t_bytes t_size 4 t_position q7.1 q7.2.1 (q7.2.2.1 + 1) t_stop t_bytes) C dX9_next_130 in_X9_next_X9 tyX9 tyX9_ok nmX9 rfl (by decide) fl_X9_next_30 rfl rfl rfl rfl (Nat.le_of_ble_eq_true rfl) rfl ?_
        obtain rfl := Option.some.inj hd
        exact j_vret (pc := 133) C hE dX9_next_133 rfl rfl
      · have hd := lp_pos c10 hd
        refine j_iconst (pc := 115) (v := 3) C dX9_next_115 jk_I3 ?_
        refine j_goto (pc := 116) (tgt := 120) C dX9_next_116 (by decide) ?_
        refine j_put (pc := 120) (q0 := 0) (ci := 9) (kf := 2) (ws2 := wd_X9_next G a_t a_t_bytes t_size 3 t_position q7.1 q7.2.1 q7.2.2.1 t_stop t_bytes) C dX9_next_120 in_X9_next_X9 tyX9 tyX9_ok nmX9 rfl (by decide) fl_X9_next_17 rfl rfl rfl rfl (Nat.le_of_ble_eq_true rfl) rfl ?_
        refine j_aload_n (pc := 123) C dX9_next_123 rfl 0 rfl ?_
        refine j_dup (pc := 124) C dX9_next_124 rfl ?_
        refine j_get (pc := 125) (q0 := 0) (ci := 9) (kf := 6) C dX9_next_125 in_X9_next_X9 rfl (by decide) fl_X9_next_30 rfl rfl ?_
        refine j_iconst (pc := 128) (v := 1) C dX9_next_128 jk_I1 ?_
        refine j_iadd (pc := 129) C dX9_next_129 ?_
        refine j_put (pc := 130) (q0 := 0) (ci := 9) (kf := 6) (ws2 := wd_X9_next G a_t a_t_bytes t_size 3 t_position q7.1 q7.2.1 (q7.2.2.1 + 1) t_stop t_bytes) C dX9_next_130 in_X9_next_X9 tyX9 tyX9_ok nmX9 rfl (by decide) fl_X9_next_30 rfl rfl rfl rfl (Nat.le_of_ble_eq_true rfl) rfl ?_
        obtain rfl := Option.some.inj hd
        exact j_vret (pc := 133) C hE dX9_next_133 rfl rfl
  · have hd := lp_neg c6 hd
    refine j_aload_n (pc := 63) C dX9_next_63 rfl 0 rfl ?_
    refine j_iconst (pc := 64) (v := 0) C dX9_next_64 jk_I0 ?_
    refine j_put (pc := 65) (q0 := 0) (ci := 9) (kf := 2) (ws2 := wd_X9_next G a_t a_t_bytes t_size 0 t_place t_number t_name t_position t_stop t_bytes) C dX9_next_65 in_X9_next_X9 tyX9 tyX9_ok nmX9 rfl (by decide) fl_X9_next_17 rfl rfl rfl rfl (Nat.le_of_ble_eq_true rfl) rfl ?_
    refine j_aload_n (pc := 68) C dX9_next_68 rfl 0 rfl ?_
    refine j_aload_n (pc := 69) C dX9_next_69 rfl 0 rfl ?_
    refine j_get (pc := 70) (q0 := 0) (ci := 9) (kf := 7) C dX9_next_70 in_X9_next_X9 rfl (by decide) fl_X9_next_33 rfl rfl ?_
    refine j_put (pc := 73) (q0 := 0) (ci := 9) (kf := 3) (ws2 := wd_X9_next G a_t a_t_bytes t_size 0 t_stop t_number t_name t_position t_stop t_bytes) C dX9_next_73 in_X9_next_X9 tyX9 tyX9_ok nmX9 rfl (by decide) fl_X9_next_20 rfl rfl rfl rfl (Nat.le_of_ble_eq_true rfl) rfl ?_
    obtain rfl := Option.some.inj hd
    exact j_vret (pc := 76) C hE dX9_next_76 rfl rfl
set_option maxHeartbeats 8000000 in
set_option maxRecDepth 100000 in
theorem lb_X9_next_1 (l : Launch) (G : jG) (a_t : Nat) (a_t_bytes : Nat) (t_size : Int32) (t_stop : Int32) (t_bytes : Nat → Int32)  (X : jX) (C : jC X l G 1 rm_X9_next cX9_next RX9 wsX9_next) (r : Int32 × Int32 × Int32 × Int64 × Int32) (hE : jE X none none (wd_X9_next G a_t a_t_bytes t_size r.2.2.2.2 r.2.1 r.2.2.1 r.2.2.2.1 r.1 t_stop t_bytes)) (n : Nat) (IH0 : ∀ (t_position : Int32) (t_place : Int32) (t_number : Int32) (t_name : Int64) (t_token : Int32), lpN (st_X9_next t_size t_stop t_bytes) n (.inl (t_position, t_place, t_number, t_name, t_token)) = some r → J X 0 0 (wd_X9_next G a_t a_t_bytes t_size t_token t_place t_number t_name t_position t_stop t_bytes) [(0, .ref a_t)] 52 []) (IH1 : ∀ (t_position : Int32) (t_place : Int32) (t_number : Int32) (t_name : Int64) (t_token : Int32), lpN (st_X9_next t_size t_stop t_bytes) n (.inr ((t_position, t_place, t_number, t_name, t_token))) = some r → J X 0 0 (wd_X9_next G a_t a_t_bytes t_size t_token t_place t_number t_name t_position t_stop t_bytes) [(0, .ref a_t)] 0 []) (t_position : Int32) (t_place : Int32) (t_number : Int32) (t_name : Int64) (t_token : Int32) (hd : lpR (st_X9_next t_size t_stop t_bytes) n (bd_X9_next_1 t_size t_stop t_bytes t_position t_place t_number t_name t_token) = some r) : J X 0 0 (wd_X9_next G a_t a_t_bytes t_size t_token t_place t_number t_name t_position t_stop t_bytes) [(0, .ref a_t)] 0 [] := by
  unfold bd_X9_next_1 at hd
  refine j_aload_n (pc := 0) C dX9_next_0 rfl 0 rfl ?_
  refine j_get (pc := 1) (q0 := 0) (ci := 9) (kf := 6) C dX9_next_1 in_X9_next_X9 rfl (by decide) fl_X9_next_30 rfl rfl ?_
  refine j_aload_n (pc := 4) C dX9_next_4 rfl 0 rfl ?_
  refine j_get (pc := 5) (q0 := 0) (ci := 9) (kf := 7) C dX9_next_5 in_X9_next_X9 rfl (by decide) fl_X9_next_33 rfl rfl ?_
  refine j_icmp_ge (pc := 8) (tgt := 52) C dX9_next_8 (by decide) (fun c11 => ?_) (fun c11 => ?_)
  · have hd := lp_pos c11 hd
    refine j_sub (lv2 := [(0, .ref a_t)]) [0] rfl ?_
    exact IH0 t_position t_place t_number t_name t_token hd
  · have hd := lp_neg c11 hd
    refine j_aload_n (pc := 11) C dX9_next_11 rfl 0 rfl ?_
    refine j_get (pc := 12) (q0 := 0) (ci := 9) (kf := 0) C dX9_next_12 in_X9_next_X9 rfl (by decide) fl_X9_next_9 rfl rfl ?_
    refine j_aload_n (pc := 15) C dX9_next_15 rfl 0 rfl ?_
    refine j_get (pc := 16) (q0 := 0) (ci := 9) (kf := 6) C dX9_next_16 in_X9_next_X9 rfl (by decide) fl_X9_next_30 rfl rfl ?_
    obtain ⟨h12, hd⟩ := lp_chk hd
    refine j_bald (pc := 19) (q0 := 1) C dX9_next_19 rfl h12 ?_
    refine j_bipush (pc := 20) (v := 32) C dX9_next_20 jk_B32 ?_
    refine j_icmp_eq (pc := 22) (tgt := 39) C dX9_next_22 (by decide) (fun c13 => ?_) (fun c13 => ?_)
    · have hd := lp_pos c13 hd
      refine j_aload_n (pc := 39) C dX9_next_39 rfl 0 rfl ?_
      refine j_dup (pc := 40) C dX9_next_40 rfl ?_
      refine j_get (pc := 41) (q0 := 0) (ci := 9) (kf := 6) C dX9_next_41 in_X9_next_X9 rfl (by decide) fl_X9_next_30 rfl rfl ?_
      refine j_iconst (pc := 44) (v := 1) C dX9_next_44 jk_I1 ?_
      refine j_iadd (pc := 45) C dX9_next_45 ?_
      refine j_put (pc := 46) (q0 := 0) (ci := 9) (kf := 6) (ws2 := wd_X9_next G a_t a_t_bytes t_size t_token t_place t_number t_name (t_position + 1) t_stop t_bytes) C dX9_next_46 in_X9_next_X9 tyX9 tyX9_ok nmX9 rfl (by decide) fl_X9_next_30 rfl rfl rfl rfl (Nat.le_of_ble_eq_true rfl) rfl ?_
      refine j_goto (pc := 49) (tgt := 0) C dX9_next_49 (by decide) ?_
      refine j_sub (lv2 := [(0, .ref a_t)]) [0] rfl ?_
      exact IH1 (t_position + 1) t_place t_number t_name t_token hd
    · have hd := lp_neg c13 hd
      refine j_aload_n (pc := 25) C dX9_next_25 rfl 0 rfl ?_
      refine j_get (pc := 26) (q0 := 0) (ci := 9) (kf := 0) C dX9_next_26 in_X9_next_X9 rfl (by decide) fl_X9_next_9 rfl rfl ?_
      refine j_aload_n (pc := 29) C dX9_next_29 rfl 0 rfl ?_
      refine j_get (pc := 30) (q0 := 0) (ci := 9) (kf := 6) C dX9_next_30 in_X9_next_X9 rfl (by decide) fl_X9_next_30 rfl rfl ?_
      obtain ⟨h14, hd⟩ := lp_chk hd
      refine j_bald (pc := 33) (q0 := 1) C dX9_next_33 rfl h14 ?_
      refine j_bipush (pc := 34) (v := 10) C dX9_next_34 jk_B10 ?_
      refine j_icmp_ne (pc := 36) (tgt := 52) C dX9_next_36 (by decide) (fun c15 => ?_) (fun c15 => ?_)
      · have hd := lp_neg c15 hd
        refine j_sub (lv2 := [(0, .ref a_t)]) [0] rfl ?_
        exact IH0 t_position t_place t_number t_name t_token hd
      · have hd := lp_pos c15 hd
        refine j_aload_n (pc := 39) C dX9_next_39 rfl 0 rfl ?_
        refine j_dup (pc := 40) C dX9_next_40 rfl ?_
        refine j_get (pc := 41) (q0 := 0) (ci := 9) (kf := 6) C dX9_next_41 in_X9_next_X9 rfl (by decide) fl_X9_next_30 rfl rfl ?_
        refine j_iconst (pc := 44) (v := 1) C dX9_next_44 jk_I1 ?_
        refine j_iadd (pc := 45) C dX9_next_45 ?_
        refine j_put (pc := 46) (q0 := 0) (ci := 9) (kf := 6) (ws2 := wd_X9_next G a_t a_t_bytes t_size t_token t_place t_number t_name (t_position + 1) t_stop t_bytes) C dX9_next_46 in_X9_next_X9 tyX9 tyX9_ok nmX9 rfl (by decide) fl_X9_next_30 rfl rfl rfl rfl (Nat.le_of_ble_eq_true rfl) rfl ?_
        refine j_goto (pc := 49) (tgt := 0) C dX9_next_49 (by decide) ?_
        refine j_sub (lv2 := [(0, .ref a_t)]) [0] rfl ?_
        exact IH1 (t_position + 1) t_place t_number t_name t_token hd
set_option maxHeartbeats 8000000 in
set_option maxRecDepth 100000 in
theorem la_X9_next (l : Launch) (G : jG) (a_t : Nat) (a_t_bytes : Nat) (t_size : Int32) (t_stop : Int32) (t_bytes : Nat → Int32)  (X : jX) (C : jC X l G 1 rm_X9_next cX9_next RX9 wsX9_next) (r : Int32 × Int32 × Int32 × Int64 × Int32) (hE : jE X none none (wd_X9_next G a_t a_t_bytes t_size r.2.2.2.2 r.2.1 r.2.2.1 r.2.2.2.1 r.1 t_stop t_bytes)) (n : Nat) : (∀ (t_position : Int32) (t_place : Int32) (t_number : Int32) (t_name : Int64) (t_token : Int32), lpN (st_X9_next t_size t_stop t_bytes) n (.inl (t_position, t_place, t_number, t_name, t_token)) = some r → J X 0 0 (wd_X9_next G a_t a_t_bytes t_size t_token t_place t_number t_name t_position t_stop t_bytes) [(0, .ref a_t)] 52 []) ∧ (∀ (t_position : Int32) (t_place : Int32) (t_number : Int32) (t_name : Int64) (t_token : Int32), lpN (st_X9_next t_size t_stop t_bytes) n (.inr ((t_position, t_place, t_number, t_name, t_token))) = some r → J X 0 0 (wd_X9_next G a_t a_t_bytes t_size t_token t_place t_number t_name t_position t_stop t_bytes) [(0, .ref a_t)] 0 []) := by
  induction n with
  | zero => exact ⟨(fun t_position t_place t_number t_name t_token h => by cases h), (fun t_position t_place t_number t_name t_token h => by cases h)⟩
  | succ n ih => exact ⟨(fun t_position t_place t_number t_name t_token h => lb_X9_next_0 l G a_t a_t_bytes t_size t_stop t_bytes X C r hE n  t_position t_place t_number t_name t_token (by rw [lpN_succ] at h; exact h)), (fun t_position t_place t_number t_name t_token h => lb_X9_next_1 l G a_t a_t_bytes t_size t_stop t_bytes X C r hE n (ih.1) (ih.2) t_position t_place t_number t_name t_token (by rw [lpN_succ] at h; exact h))⟩
set_option maxHeartbeats 8000000 in
set_option maxRecDepth 100000 in
theorem ct_X9_next (l : Launch) (G : jG) (a_t : Nat) (a_t_bytes : Nat) (t_size : Int32) (t_token : Int32) (t_place : Int32) (t_number : Int32) (t_name : Int64) (t_position : Int32) (t_stop : Int32) (t_bytes : Nat → Int32)  (r : Int32 × Int32 × Int32 × Int64 × Int32) (hd : dn_X9_next t_size t_token t_place t_number t_name t_position t_stop t_bytes = some r) : jM l G yX9_next wsX9_next rm_X9_next [.ref a_t] (wd_X9_next G a_t a_t_bytes t_size t_token t_place t_number t_name t_position t_stop t_bytes) none (wd_X9_next G a_t a_t_bytes t_size r.2.2.2.2 r.2.1 r.2.2.1 r.2.2.2.1 r.1 t_stop t_bytes) := by
  refine jM_of (own := RX9) (by decide) rfl rfl rfl (Nat.le_of_ble_eq_true rfl) (lv0 := [(0, .ref a_t)]) rfl (fun X C hE => ?_)
  unfold dn_X9_next at hd
  refine j_aload_n (pc := 0) C dX9_next_0 rfl 0 rfl ?_
  refine j_get (pc := 1) (q0 := 0) (ci := 9) (kf := 6) C dX9_next_1 in_X9_next_X9 rfl (by decide) fl_X9_next_30 rfl rfl ?_
  refine j_aload_n (pc := 4) C dX9_next_4 rfl 0 rfl ?_
  refine j_get (pc := 5) (q0 := 0) (ci := 9) (kf := 7) C dX9_next_5 in_X9_next_X9 rfl (by decide) fl_X9_next_33 rfl rfl ?_
  refine j_icmp_ge (pc := 8) (tgt := 52) C dX9_next_8 (by decide) (fun c1 => ?_) (fun c1 => ?_)
  · have hd := ob_pos c1 hd
    refine j_sub (lv2 := [(0, .ref a_t)]) [0] rfl ?_
    obtain ⟨n, hn⟩ := lpC_ex hd
    exact (la_X9_next l G a_t a_t_bytes t_size t_stop t_bytes X C r hE n).1 t_position t_place t_number t_name t_token hn
  · have hd := ob_neg c1 hd
    refine j_aload_n (pc := 11) C dX9_next_11 rfl 0 rfl ?_
    refine j_get (pc := 12) (q0 := 0) (ci := 9) (kf := 0) C dX9_next_12 in_X9_next_X9 rfl (by decide) fl_X9_next_9 rfl rfl ?_
    refine j_aload_n (pc := 15) C dX9_next_15 rfl 0 rfl ?_
    refine j_get (pc := 16) (q0 := 0) (ci := 9) (kf := 6) C dX9_next_16 in_X9_next_X9 rfl (by decide) fl_X9_next_30 rfl rfl ?_
    obtain ⟨h2, hd⟩ := ob_chk hd
    refine j_bald (pc := 19) (q0 := 1) C dX9_next_19 rfl h2 ?_
    refine j_bipush (pc := 20) (v := 32) C dX9_next_20 jk_B32 ?_
    refine j_icmp_eq (pc := 22) (tgt := 39) C dX9_next_22 (by decide) (fun c3 => ?_) (fun c3 => ?_)
    · have hd := ob_pos c3 hd
      refine j_aload_n (pc := 39) C dX9_next_39 rfl 0 rfl ?_
      refine j_dup (pc := 40) C dX9_next_40 rfl ?_
      refine j_get (pc := 41) (q0 := 0) (ci := 9) (kf := 6) C dX9_next_41 in_X9_next_X9 rfl (by decide) fl_X9_next_30 rfl rfl ?_
      refine j_iconst (pc := 44) (v := 1) C dX9_next_44 jk_I1 ?_
      refine j_iadd (pc := 45) C dX9_next_45 ?_
      refine j_put (pc := 46) (q0 := 0) (ci := 9) (kf := 6) (ws2 := wd_X9_next G a_t a_t_bytes t_size t_token t_place t_number t_name (t_position + 1) t_stop t_bytes) C dX9_next_46 in_X9_next_X9 tyX9 tyX9_ok nmX9 rfl (by decide) fl_X9_next_30 rfl rfl rfl rfl (Nat.le_of_ble_eq_true rfl) rfl ?_
      refine j_goto (pc := 49) (tgt := 0) C dX9_next_49 (by decide) ?_
      refine j_sub (lv2 := [(0, .ref a_t)]) [0] rfl ?_
      obtain ⟨n, hn⟩ := lpC_ex hd
      exact (la_X9_next l G a_t a_t_bytes t_size t_stop t_bytes X C r hE n).2 (t_position + 1) t_place t_number t_name t_token hn
    · have hd := ob_neg c3 hd
      refine j_aload_n (pc := 25) C dX9_next_25 rfl 0 rfl ?_
      refine j_get (pc := 26) (q0 := 0) (ci := 9) (kf := 0) C dX9_next_26 in_X9_next_X9 rfl (by decide) fl_X9_next_9 rfl rfl ?_
      refine j_aload_n (pc := 29) C dX9_next_29 rfl 0 rfl ?_
      refine j_get (pc := 30) (q0 := 0) (ci := 9) (kf := 6) C dX9_next_30 in_X9_next_X9 rfl (by decide) fl_X9_next_30 rfl rfl ?_
      obtain ⟨h4, hd⟩ := ob_chk hd
      refine j_bald (pc := 33) (q0 := 1) C dX9_next_33 rfl h4 ?_
      refine j_bipush (pc := 34) (v := 10) C dX9_next_34 jk_B10 ?_
      refine j_icmp_ne (pc := 36) (tgt := 52) C dX9_next_36 (by decide) (fun c5 => ?_) (fun c5 => ?_)
      · have hd := ob_neg c5 hd
        refine j_sub (lv2 := [(0, .ref a_t)]) [0] rfl ?_
        obtain ⟨n, hn⟩ := lpC_ex hd
        exact (la_X9_next l G a_t a_t_bytes t_size t_stop t_bytes X C r hE n).1 t_position t_place t_number t_name t_token hn
      · have hd := ob_pos c5 hd
        refine j_aload_n (pc := 39) C dX9_next_39 rfl 0 rfl ?_
        refine j_dup (pc := 40) C dX9_next_40 rfl ?_
        refine j_get (pc := 41) (q0 := 0) (ci := 9) (kf := 6) C dX9_next_41 in_X9_next_X9 rfl (by decide) fl_X9_next_30 rfl rfl ?_
        refine j_iconst (pc := 44) (v := 1) C dX9_next_44 jk_I1 ?_
        refine j_iadd (pc := 45) C dX9_next_45 ?_
        refine j_put (pc := 46) (q0 := 0) (ci := 9) (kf := 6) (ws2 := wd_X9_next G a_t a_t_bytes t_size t_token t_place t_number t_name (t_position + 1) t_stop t_bytes) C dX9_next_46 in_X9_next_X9 tyX9 tyX9_ok nmX9 rfl (by decide) fl_X9_next_30 rfl rfl rfl rfl (Nat.le_of_ble_eq_true rfl) rfl ?_
        refine j_goto (pc := 49) (tgt := 0) C dX9_next_49 (by decide) ?_
        refine j_sub (lv2 := [(0, .ref a_t)]) [0] rfl ?_
        obtain ⟨n, hn⟩ := lpC_ex hd
        exact (la_X9_next l G a_t a_t_bytes t_size t_stop t_bytes X C r hE n).2 (t_position + 1) t_place t_number t_name t_token hn
/-! ##### LendTown$Tape.isWord(Ljava/lang/String;)Z -/
abbrev rm_X9_isWord : Room := { frames := 6, cells := 0, slots := 0, locals := 160 }
theorem jy_X9_isWord : jY yX9_isWord wsX9_isWord rm_X9_isWord cX9_isWord 3 (some .boolean) 1 := ⟨⟨_, rfl⟩, ⟨rfl, rfl⟩, by decide, by decide, by decide +kernel⟩
theorem in_X9_isWord_X9 : ∀ w ∈ u_ws RX9 TX9 8, w ∈ wsX9_isWord := fun w h => List.mem_cons_of_mem _ (List.mem_append_right _ (h))
theorem fl_X9_isWord_17 : Cond.fieldLink RX9 17 "LendTown$Tape" "token" "I" ∈ wsX9_isWord := List.mem_of_getElem? (i := 1) rfl
theorem fl_X9_isWord_30 : Cond.fieldLink RX9 30 "LendTown$Tape" "position" "I" ∈ wsX9_isWord := List.mem_of_getElem? (i := 2) rfl
theorem fl_X9_isWord_20 : Cond.fieldLink RX9 20 "LendTown$Tape" "place" "I" ∈ wsX9_isWord := List.mem_of_getElem? (i := 3) rfl
theorem fl_X9_isWord_9 : Cond.fieldLink RX9 9 "LendTown$Tape" "bytes" "[B" ∈ wsX9_isWord := List.mem_of_getElem? (i := 4) rfl
def wd_X9_isWord (G : jG) (a_t : Nat) (a_t_bytes : Nat) (t_size : Int32) (t_token : Int32) (t_place : Int32) (t_number : Int32) (t_name : Int64) (t_position : Int32) (t_stop : Int32) (t_bytes : Nat → Int32) : va_W := [(a_t, .inr (9, [.ref a_t_bytes, .int t_size, .int t_token, .int t_place, .int t_number, .long t_name, .int t_position, .int t_stop])), (a_t_bytes, .inl (G.2.1, 940, .inl t_bytes))]
set_option maxHeartbeats 8000000 in
set_option maxRecDepth 100000 in
theorem lb_X9_isWord_0 (l : Launch) (G : jG) (a_t : Nat) (a_t_bytes : Nat) (t_size : Int32) (t_token : Int32) (t_place : Int32) (t_number : Int32) (t_name : Int64) (t_position : Int32) (t_stop : Int32) (t_bytes : Nat → Int32) (i1 : Nat) (hi1 : i1 < nJS) (X : jX) (C : jC X l G 3 rm_X9_isWord cX9_isWord RX9 wsX9_isWord) (r : Bool) (hE : jE X (some .boolean) (some (.int (b2i r))) (wd_X9_isWord G a_t a_t_bytes t_size t_token t_place t_number t_name t_position t_stop t_bytes)) (n : Nat) (IH0 : ∀ (v2 : Int32), lpN (st_X9_isWord t_place t_bytes i1) n (v2) = some r → J X 0 0 (wd_X9_isWord G a_t a_t_bytes t_size t_token t_place t_number t_name t_position t_stop t_bytes) [(0, .ref a_t), (1, .ref (G.2.2.2.2.2.1 i1)), (2, .int v2)] 28 []) (v2 : Int32) (hd : lpR (st_X9_isWord t_place t_bytes i1) n (bd_X9_isWord_0 t_place t_bytes i1 v2) = some r) : J X 0 0 (wd_X9_isWord G a_t a_t_bytes t_size t_token t_place t_number t_name t_position t_stop t_bytes) [(0, .ref a_t), (1, .ref (G.2.2.2.2.2.1 i1)), (2, .int v2)] 28 [] := by
  unfold bd_X9_isWord_0 at hd
  refine j_iload_n (pc := 28) C dX9_isWord_28 rfl 2 rfl ?_
  refine j_aload_n (pc := 29) C dX9_isWord_29 rfl 1 rfl ?_
  refine j_callVS (pc := 30) (i := i1) (As := []) (rest := [.int v2]) (st2 := [.int (nI (lenJS.getD i1 0)), .int v2]) C hi1 (ct_slen l G i1 hi1) jy_J0_length_8abf5 dX9_isWord_30 gX9_isWord_J0_length_8abf5 rfl rfl (by decide) ⟨Nat.zero_le _, Nat.zero_le _⟩ rfl (Nat.le_of_ble_eq_true rfl) rfl ?_
  refine j_icmp_ge (pc := 33) (tgt := 75) C dX9_isWord_33 (by decide) (fun c3 => ?_) (fun c3 => ?_)
  · have hd := lp_pos c3 hd
    refine j_iconst (pc := 75) (v := 1) C dX9_isWord_75 jk_I1 ?_
    obtain rfl := Option.some.inj hd
    exact j_zret (pc := 76) C hE dX9_isWord_76 rfl rfl rfl
  · have hd := lp_neg c3 hd
    refine j_aload_n (pc := 36) C dX9_isWord_36 rfl 0 rfl ?_
    refine j_get (pc := 37) (q0 := 0) (ci := 9) (kf := 3) C dX9_isWord_37 in_X9_isWord_X9 rfl (by decide) fl_X9_isWord_20 rfl rfl ?_
    refine j_iload_n (pc := 40) C dX9_isWord_40 rfl 2 rfl ?_
    refine j_iadd (pc := 41) C dX9_isWord_41 ?_
    refine j_sipush (pc := 42) (v := 940) C dX9_isWord_42 jk_S940 ?_
    refine j_icmp_ge (pc := 45) (tgt := 75) C dX9_isWord_45 (by decide) (fun c4 => ?_) (fun c4 => ?_)
    · have hd := lp_pos c4 hd
      refine j_iconst (pc := 75) (v := 1) C dX9_isWord_75 jk_I1 ?_
      obtain rfl := Option.some.inj hd
      exact j_zret (pc := 76) C hE dX9_isWord_76 rfl rfl rfl
    · have hd := lp_neg c4 hd
      refine j_aload_n (pc := 48) C dX9_isWord_48 rfl 0 rfl ?_
      refine j_get (pc := 49) (q0 := 0) (ci := 9) (kf := 0) C dX9_isWord_49 in_X9_isWord_X9 rfl (by decide) fl_X9_isWord_9 rfl rfl ?_
      refine j_aload_n (pc := 52) C dX9_isWord_52 rfl 0 rfl ?_
      refine j_get (pc := 53) (q0 := 0) (ci := 9) (kf := 3) C dX9_isWord_53 in_X9_isWord_X9 rfl (by decide) fl_X9_isWord_20 rfl rfl ?_
      refine j_iload_n (pc := 56) C dX9_isWord_56 rfl 2 rfl ?_
      refine j_iadd (pc := 57) C dX9_isWord_57 ?_
      obtain ⟨h5, hd⟩ := lp_chk hd
      refine j_bald (pc := 58) (q0 := 1) C dX9_isWord_58 rfl h5 ?_
      refine j_aload_n (pc := 59) C dX9_isWord_59 rfl 1 rfl ?_
      refine j_iload_n (pc := 60) C dX9_isWord_60 rfl 2 rfl ?_
      obtain ⟨h6, hd⟩ := lp_chk hd
      refine j_callVS (pc := 61) (i := i1) (As := [.int v2]) (rest := [.int (t_bytes ((t_place + v2)).toNatClampNeg)]) (st2 := [.int ((bytJS.getD i1 []).getD (v2).toNatClampNeg 0), .int (t_bytes ((t_place + v2)).toNatClampNeg)]) C hi1 (ct_schar l G i1 hi1 v2 h6) jy_J0_charAt_5068e dX9_isWord_61 gX9_isWord_J0_charAt_5068e rfl rfl (by decide) ⟨Nat.zero_le _, Nat.zero_le _⟩ rfl (Nat.le_of_ble_eq_true rfl) rfl ?_
      refine j_icmp_eq (pc := 64) (tgt := 69) C dX9_isWord_64 (by decide) (fun c7 => ?_) (fun c7 => ?_)
      · have hd := lp_pos c7 hd
        refine j_iinc (pc := 69) (lv2 := [(0, .ref a_t), (1, .ref (G.2.2.2.2.2.1 i1)), (2, .int (v2 + 1))]) C dX9_isWord_69 jk_I1 (by decide) 2 rfl [1, 2, 0] rfl ?_
        refine j_goto (pc := 72) (tgt := 28) C dX9_isWord_72 (by decide) ?_
        refine j_sub (lv2 := [(0, .ref a_t), (1, .ref (G.2.2.2.2.2.1 i1)), (2, .int (v2 + 1))]) [0, 1, 2] rfl ?_
        exact IH0 (v2 + 1) hd
      · have hd := lp_neg c7 hd
        refine j_iconst (pc := 67) (v := 0) C dX9_isWord_67 jk_I0 ?_
        obtain rfl := Option.some.inj hd
        exact j_zret (pc := 68) C hE dX9_isWord_68 rfl rfl rfl
set_option maxHeartbeats 8000000 in
set_option maxRecDepth 100000 in
theorem la_X9_isWord (l : Launch) (G : jG) (a_t : Nat) (a_t_bytes : Nat) (t_size : Int32) (t_token : Int32) (t_place : Int32) (t_number : Int32) (t_name : Int64) (t_position : Int32) (t_stop : Int32) (t_bytes : Nat → Int32) (i1 : Nat) (hi1 : i1 < nJS) (X : jX) (C : jC X l G 3 rm_X9_isWord cX9_isWord RX9 wsX9_isWord) (r : Bool) (hE : jE X (some .boolean) (some (.int (b2i r))) (wd_X9_isWord G a_t a_t_bytes t_size t_token t_place t_number t_name t_position t_stop t_bytes)) (n : Nat) : (∀ (v2 : Int32), lpN (st_X9_isWord t_place t_bytes i1) n (v2) = some r → J X 0 0 (wd_X9_isWord G a_t a_t_bytes t_size t_token t_place t_number t_name t_position t_stop t_bytes) [(0, .ref a_t), (1, .ref (G.2.2.2.2.2.1 i1)), (2, .int v2)] 28 []) := by
  induction n with
  | zero => exact (fun v2 h => by cases h)
  | succ n ih => exact (fun v2 h => lb_X9_isWord_0 l G a_t a_t_bytes t_size t_token t_place t_number t_name t_position t_stop t_bytes i1 hi1 X C r hE n (ih) v2 (by rw [lpN_succ] at h; exact h))
set_option maxHeartbeats 8000000 in
set_option maxRecDepth 100000 in
theorem ct_X9_isWord (l : Launch) (G : jG) (a_t : Nat) (a_t_bytes : Nat) (t_size : Int32) (t_token : Int32) (t_place : Int32) (t_number : Int32) (t_name : Int64) (t_position : Int32) (t_stop : Int32) (t_bytes : Nat → Int32) (i1 : Nat) (hi1 : i1 < nJS) (r : Bool) (hd : dn_X9_isWord t_token t_place t_position t_bytes i1 = some r) : jM l G yX9_isWord wsX9_isWord rm_X9_isWord [.ref a_t, .ref (G.2.2.2.2.2.1 i1)] (wd_X9_isWord G a_t a_t_bytes t_size t_token t_place t_number t_name t_position t_stop t_bytes) (some (.int (b2i r))) (wd_X9_isWord G a_t a_t_bytes t_size t_token t_place t_number t_name t_position t_stop t_bytes) := by
  refine jM_of (own := RX9) (by decide) rfl rfl rfl (Nat.le_of_ble_eq_true rfl) (lv0 := [(0, .ref a_t), (1, .ref (G.2.2.2.2.2.1 i1))]) rfl (fun X C hE => ?_)
  unfold dn_X9_isWord at hd
  refine j_aload_n (pc := 0) C dX9_isWord_0 rfl 0 rfl ?_
  refine j_get (pc := 1) (q0 := 0) (ci := 9) (kf := 2) C dX9_isWord_1 in_X9_isWord_X9 rfl (by decide) fl_X9_isWord_17 rfl rfl ?_
  refine j_iconst (pc := 4) (v := 1) C dX9_isWord_4 jk_I1 ?_
  refine j_icmp_ne (pc := 5) (tgt := 24) C dX9_isWord_5 (by decide) (fun c1 => ?_) (fun c1 => ?_)
  · have hd := ob_neg c1 hd
    refine j_iconst (pc := 24) (v := 0) C dX9_isWord_24 jk_I0 ?_
    obtain rfl := Option.some.inj hd
    exact j_zret (pc := 25) C hE dX9_isWord_25 rfl rfl rfl
  · have hd := ob_pos c1 hd
    refine j_aload_n (pc := 8) C dX9_isWord_8 rfl 0 rfl ?_
    refine j_get (pc := 9) (q0 := 0) (ci := 9) (kf := 6) C dX9_isWord_9 in_X9_isWord_X9 rfl (by decide) fl_X9_isWord_30 rfl rfl ?_
    refine j_aload_n (pc := 12) C dX9_isWord_12 rfl 0 rfl ?_
    refine j_get (pc := 13) (q0 := 0) (ci := 9) (kf := 3) C dX9_isWord_13 in_X9_isWord_X9 rfl (by decide) fl_X9_isWord_20 rfl rfl ?_
    refine j_isub (pc := 16) C dX9_isWord_16 ?_
    refine j_aload_n (pc := 17) C dX9_isWord_17 rfl 1 rfl ?_
    refine j_callVS (pc := 18) (i := i1) (As := []) (rest := [.int (t_position - t_place)]) (st2 := [.int (nI (lenJS.getD i1 0)), .int (t_position - t_place)]) C hi1 (ct_slen l G i1 hi1) jy_J0_length_8abf5 dX9_isWord_18 gX9_isWord_J0_length_8abf5 rfl rfl (by decide) ⟨Nat.zero_le _, Nat.zero_le _⟩ rfl (Nat.le_of_ble_eq_true rfl) rfl ?_
    refine j_icmp_eq (pc := 21) (tgt := 26) C dX9_isWord_21 (by decide) (fun c2 => ?_) (fun c2 => ?_)
    · have hd := ob_pos c2 hd
      refine j_iconst (pc := 26) (v := 0) C dX9_isWord_26 jk_I0 ?_
      refine j_istore_n (pc := 27) (lv2 := [(0, .ref a_t), (1, .ref (G.2.2.2.2.2.1 i1)), (2, .int 0)]) C dX9_isWord_27 rfl (by decide) [1, 2, 0] rfl ?_
      refine j_sub (lv2 := [(0, .ref a_t), (1, .ref (G.2.2.2.2.2.1 i1)), (2, .int 0)]) [0, 1, 2] rfl ?_
      obtain ⟨n, hn⟩ := lpC_ex hd
      exact (la_X9_isWord l G a_t a_t_bytes t_size t_token t_place t_number t_name t_position t_stop t_bytes i1 hi1 X C r hE n) 0 hn
    · have hd := ob_neg c2 hd
      refine j_iconst (pc := 24) (v := 0) C dX9_isWord_24 jk_I0 ?_
      obtain rfl := Option.some.inj hd
      exact j_zret (pc := 25) C hE dX9_isWord_25 rfl rfl rfl
/-! ##### LendTown$Tape.isName()Z -/
abbrev rm_X9_isName : Room := { frames := 7, cells := 0, slots := 0, locals := 182 }
theorem jy_X9_isName : jY yX9_isName wsX9_isName rm_X9_isName cX9_isName 1 (some .boolean) 0 := ⟨⟨_, rfl⟩, ⟨rfl, rfl⟩, by decide, by decide, by decide +kernel⟩
theorem in_X9_isName_X9 : ∀ w ∈ u_ws RX9 TX9 8, w ∈ wsX9_isName := fun w h => List.mem_cons_of_mem _ (List.mem_append_right _ (h))
theorem fl_X9_isName_17 : Cond.fieldLink RX9 17 "LendTown$Tape" "token" "I" ∈ wsX9_isName := List.mem_of_getElem? (i := 1) rfl
def wd_X9_isName (G : jG) (a_t : Nat) (a_t_bytes : Nat) (t_size : Int32) (t_token : Int32) (t_place : Int32) (t_number : Int32) (t_name : Int64) (t_position : Int32) (t_stop : Int32) (t_bytes : Nat → Int32) : va_W := [(a_t, .inr (9, [.ref a_t_bytes, .int t_size, .int t_token, .int t_place, .int t_number, .long t_name, .int t_position, .int t_stop])), (a_t_bytes, .inl (G.2.1, 940, .inl t_bytes))]
set_option maxHeartbeats 8000000 in
set_option maxRecDepth 100000 in
theorem ct_X9_isName (l : Launch) (G : jG) (a_t : Nat) (a_t_bytes : Nat) (t_size : Int32) (t_token : Int32) (t_place : Int32) (t_number : Int32) (t_name : Int64) (t_position : Int32) (t_stop : Int32) (t_bytes : Nat → Int32)  (r : Bool) (hd : dn_X9_isName t_token t_place t_position t_bytes = some r) : jM l G yX9_isName wsX9_isName rm_X9_isName [.ref a_t] (wd_X9_isName G a_t a_t_bytes t_size t_token t_place t_number t_name t_position t_stop t_bytes) (some (.int (b2i r))) (wd_X9_isName G a_t a_t_bytes t_size t_token t_place t_number t_name t_position t_stop t_bytes) := by
  refine jM_of (own := RX9) (by decide) rfl rfl rfl (Nat.le_of_ble_eq_true rfl) (lv0 := [(0, .ref a_t)]) rfl (fun X C hE => ?_)
  unfold dn_X9_isName at hd
  refine j_aload_n (pc := 0) C dX9_isName_0 rfl 0 rfl ?_
  refine j_ldcS (pc := 1) (q := (RX9, 57, "person", 0)) C dX9_isName_1 (List.mem_of_getElem? (i := 0) rfl) rfl ?_
  obtain ⟨q1, eq1, hd⟩ := ob_bind hd
  refine j_callV (pc := 3) (q0 := 0) (ci := 9) (As := [.ref (G.2.2.2.2.2.1 0)]) (rest := []) (st2 := [.int (b2i q1)]) (ws2 := wd_X9_isName G a_t a_t_bytes t_size t_token t_place t_number t_name t_position t_stop t_bytes) C (ct_X9_isWord l G a_t a_t_bytes t_size t_token t_place t_number t_name t_position t_stop t_bytes 0 (by decide) q1 eq1) jy_X9_isWord dX9_isName_3 gX9_isName_X9_isWord rfl rfl (by decide) ⟨Nat.zero_le _, Nat.zero_le _⟩ [0, 1] rfl rfl (jpt_eq rfl rfl rfl) rfl rfl rfl (Nat.le_of_ble_eq_true rfl) rfl ?_
  refine j_ifb_ne (pc := 6) (tgt := 36) C dX9_isName_6 (by decide) (fun c2 => ?_) (fun c2 => ?_)
  · have hd := ob_pos c2 hd
    refine j_iconst (pc := 36) (v := 0) C dX9_isName_36 jk_I0 ?_
    obtain rfl := Option.some.inj hd
    exact j_zret (pc := 37) C hE dX9_isName_37 rfl rfl rfl
  · have hd := ob_neg c2 hd
    refine j_aload_n (pc := 9) C dX9_isName_9 rfl 0 rfl ?_
    refine j_ldcS (pc := 10) (q := (RX9, 63, "limit", 1)) C dX9_isName_10 (List.mem_of_getElem? (i := 1) rfl) rfl ?_
    obtain ⟨q3, eq3, hd⟩ := ob_bind hd
    refine j_callV (pc := 12) (q0 := 0) (ci := 9) (As := [.ref (G.2.2.2.2.2.1 1)]) (rest := []) (st2 := [.int (b2i q3)]) (ws2 := wd_X9_isName G a_t a_t_bytes t_size t_token t_place t_number t_name t_position t_stop t_bytes) C (ct_X9_isWord l G a_t a_t_bytes t_size t_token t_place t_number t_name t_position t_stop t_bytes 1 (by decide) q3 eq3) jy_X9_isWord dX9_isName_12 gX9_isName_X9_isWord rfl rfl (by decide) ⟨Nat.zero_le _, Nat.zero_le _⟩ [0, 1] rfl rfl (jpt_eq rfl rfl rfl) rfl rfl rfl (Nat.le_of_ble_eq_true rfl) rfl ?_
    refine j_ifb_ne (pc := 15) (tgt := 36) C dX9_isName_15 (by decide) (fun c4 => ?_) (fun c4 => ?_)
    · have hd := ob_pos c4 hd
      refine j_iconst (pc := 36) (v := 0) C dX9_isName_36 jk_I0 ?_
      obtain rfl := Option.some.inj hd
      exact j_zret (pc := 37) C hE dX9_isName_37 rfl rfl rfl
    · have hd := ob_neg c4 hd
      refine j_aload_n (pc := 18) C dX9_isName_18 rfl 0 rfl ?_
      refine j_ldcS (pc := 19) (q := (RX9, 65, "deal", 2)) C dX9_isName_19 (List.mem_of_getElem? (i := 2) rfl) rfl ?_
      obtain ⟨q5, eq5, hd⟩ := ob_bind hd
      refine j_callV (pc := 21) (q0 := 0) (ci := 9) (As := [.ref (G.2.2.2.2.2.1 2)]) (rest := []) (st2 := [.int (b2i q5)]) (ws2 := wd_X9_isName G a_t a_t_bytes t_size t_token t_place t_number t_name t_position t_stop t_bytes) C (ct_X9_isWord l G a_t a_t_bytes t_size t_token t_place t_number t_name t_position t_stop t_bytes 2 (by decide) q5 eq5) jy_X9_isWord dX9_isName_21 gX9_isName_X9_isWord rfl rfl (by decide) ⟨Nat.zero_le _, Nat.zero_le _⟩ [0, 1] rfl rfl (jpt_eq rfl rfl rfl) rfl rfl rfl (Nat.le_of_ble_eq_true rfl) rfl ?_
      refine j_ifb_ne (pc := 24) (tgt := 36) C dX9_isName_24 (by decide) (fun c6 => ?_) (fun c6 => ?_)
      · have hd := ob_pos c6 hd
        refine j_iconst (pc := 36) (v := 0) C dX9_isName_36 jk_I0 ?_
        obtain rfl := Option.some.inj hd
        exact j_zret (pc := 37) C hE dX9_isName_37 rfl rfl rfl
      · have hd := ob_neg c6 hd
        refine j_aload_n (pc := 27) C dX9_isName_27 rfl 0 rfl ?_
        refine j_ldcS (pc := 28) (q := (RX9, 67, "either", 3)) C dX9_isName_28 (List.mem_of_getElem? (i := 3) rfl) rfl ?_
        obtain ⟨q7, eq7, hd⟩ := ob_bind hd
        refine j_callV (pc := 30) (q0 := 0) (ci := 9) (As := [.ref (G.2.2.2.2.2.1 3)]) (rest := []) (st2 := [.int (b2i q7)]) (ws2 := wd_X9_isName G a_t a_t_bytes t_size t_token t_place t_number t_name t_position t_stop t_bytes) C (ct_X9_isWord l G a_t a_t_bytes t_size t_token t_place t_number t_name t_position t_stop t_bytes 3 (by decide) q7 eq7) jy_X9_isWord dX9_isName_30 gX9_isName_X9_isWord rfl rfl (by decide) ⟨Nat.zero_le _, Nat.zero_le _⟩ [0, 1] rfl rfl (jpt_eq rfl rfl rfl) rfl rfl rfl (Nat.le_of_ble_eq_true rfl) rfl ?_
        refine j_ifb_eq (pc := 33) (tgt := 38) C dX9_isName_33 (by decide) (fun c8 => ?_) (fun c8 => ?_)
        · have hd := ob_neg c8 hd
          refine j_aload_n (pc := 38) C dX9_isName_38 rfl 0 rfl ?_
          refine j_ldcS (pc := 39) (q := (RX9, 69, "law", 4)) C dX9_isName_39 (List.mem_of_getElem? (i := 4) rfl) rfl ?_
          obtain ⟨q9, eq9, hd⟩ := ob_bind hd
          refine j_callV (pc := 41) (q0 := 0) (ci := 9) (As := [.ref (G.2.2.2.2.2.1 4)]) (rest := []) (st2 := [.int (b2i q9)]) (ws2 := wd_X9_isName G a_t a_t_bytes t_size t_token t_place t_number t_name t_position t_stop t_bytes) C (ct_X9_isWord l G a_t a_t_bytes t_size t_token t_place t_number t_name t_position t_stop t_bytes 4 (by decide) q9 eq9) jy_X9_isWord dX9_isName_41 gX9_isName_X9_isWord rfl rfl (by decide) ⟨Nat.zero_le _, Nat.zero_le _⟩ [0, 1] rfl rfl (jpt_eq rfl rfl rfl) rfl rfl rfl (Nat.le_of_ble_eq_true rfl) rfl ?_
          refine j_ifb_ne (pc := 44) (tgt := 74) C dX9_isName_44 (by decide) (fun c10 => ?_) (fun c10 => ?_)
          · have hd := ob_pos c10 hd
            refine j_iconst (pc := 74) (v := 0) C dX9_isName_74 jk_I0 ?_
            obtain rfl := Option.some.inj hd
            exact j_zret (pc := 75) C hE dX9_isName_75 rfl rfl rfl
          · have hd := ob_neg c10 hd
            refine j_aload_n (pc := 47) C dX9_isName_47 rfl 0 rfl ?_
            refine j_ldcS (pc := 48) (q := (RX9, 71, "life", 5)) C dX9_isName_48 (List.mem_of_getElem? (i := 5) rfl) rfl ?_
            obtain ⟨q11, eq11, hd⟩ := ob_bind hd
            refine j_callV (pc := 50) (q0 := 0) (ci := 9) (As := [.ref (G.2.2.2.2.2.1 5)]) (rest := []) (st2 := [.int (b2i q11)]) (ws2 := wd_X9_isName G a_t a_t_bytes t_size t_token t_place t_number t_name t_position t_stop t_bytes) C (ct_X9_isWord l G a_t a_t_bytes t_size t_token t_place t_number t_name t_position t_stop t_bytes 5 (by decide) q11 eq11) jy_X9_isWord dX9_isName_50 gX9_isName_X9_isWord rfl rfl (by decide) ⟨Nat.zero_le _, Nat.zero_le _⟩ [0, 1] rfl rfl (jpt_eq rfl rfl rfl) rfl rfl rfl (Nat.le_of_ble_eq_true rfl) rfl ?_
            refine j_ifb_ne (pc := 53) (tgt := 74) C dX9_isName_53 (by decide) (fun c12 => ?_) (fun c12 => ?_)
            · have hd := ob_pos c12 hd
              refine j_iconst (pc := 74) (v := 0) C dX9_isName_74 jk_I0 ?_
              obtain rfl := Option.some.inj hd
              exact j_zret (pc := 75) C hE dX9_isName_75 rfl rfl rfl
            · have hd := ob_neg c12 hd
              refine j_aload_n (pc := 56) C dX9_isName_56 rfl 0 rfl ?_
              refine j_ldcS (pc := 57) (q := (RX9, 73, "years", 6)) C dX9_isName_57 (List.mem_of_getElem? (i := 6) rfl) rfl ?_
              obtain ⟨q13, eq13, hd⟩ := ob_bind hd
              refine j_callV (pc := 59) (q0 := 0) (ci := 9) (As := [.ref (G.2.2.2.2.2.1 6)]) (rest := []) (st2 := [.int (b2i q13)]) (ws2 := wd_X9_isName G a_t a_t_bytes t_size t_token t_place t_number t_name t_position t_stop t_bytes) C (ct_X9_isWord l G a_t a_t_bytes t_size t_token t_place t_number t_name t_position t_stop t_bytes 6 (by decide) q13 eq13) jy_X9_isWord dX9_isName_59 gX9_isName_X9_isWord rfl rfl (by decide) ⟨Nat.zero_le _, Nat.zero_le _⟩ [0, 1] rfl rfl (jpt_eq rfl rfl rfl) rfl rfl rfl (Nat.le_of_ble_eq_true rfl) rfl ?_
              refine j_ifb_ne (pc := 62) (tgt := 74) C dX9_isName_62 (by decide) (fun c14 => ?_) (fun c14 => ?_)
              · have hd := ob_pos c14 hd
                refine j_iconst (pc := 74) (v := 0) C dX9_isName_74 jk_I0 ?_
                obtain rfl := Option.some.inj hd
                exact j_zret (pc := 75) C hE dX9_isName_75 rfl rfl rfl
              · have hd := ob_neg c14 hd
                refine j_aload_n (pc := 65) C dX9_isName_65 rfl 0 rfl ?_
                refine j_ldcS (pc := 66) (q := (RX9, 75, "part", 7)) C dX9_isName_66 (List.mem_of_getElem? (i := 7) rfl) rfl ?_
                obtain ⟨q15, eq15, hd⟩ := ob_bind hd
                refine j_callV (pc := 68) (q0 := 0) (ci := 9) (As := [.ref (G.2.2.2.2.2.1 7)]) (rest := []) (st2 := [.int (b2i q15)]) (ws2 := wd_X9_isName G a_t a_t_bytes t_size t_token t_place t_number t_name t_position t_stop t_bytes) C (ct_X9_isWord l G a_t a_t_bytes t_size t_token t_place t_number t_name t_position t_stop t_bytes 7 (by decide) q15 eq15) jy_X9_isWord dX9_isName_68 gX9_isName_X9_isWord rfl rfl (by decide) ⟨Nat.zero_le _, Nat.zero_le _⟩ [0, 1] rfl rfl (jpt_eq rfl rfl rfl) rfl rfl rfl (Nat.le_of_ble_eq_true rfl) rfl ?_
                refine j_ifb_eq (pc := 71) (tgt := 76) C dX9_isName_71 (by decide) (fun c16 => ?_) (fun c16 => ?_)
                · have hd := ob_neg c16 hd
                  refine j_aload_n (pc := 76) C dX9_isName_76 rfl 0 rfl ?_
                  refine j_get (pc := 77) (q0 := 0) (ci := 9) (kf := 2) C dX9_isName_77 in_X9_isName_X9 rfl (by decide) fl_X9_isName_17 rfl rfl ?_
                  refine j_iconst (pc := 80) (v := 1) C dX9_isName_80 jk_I1 ?_
                  refine j_icmp_ne (pc := 81) (tgt := 115) C dX9_isName_81 (by decide) (fun c17 => ?_) (fun c17 => ?_)
                  · have hd := ob_neg c17 hd
                    refine j_iconst (pc := 115) (v := 0) C dX9_isName_115 jk_I0 ?_
                    obtain rfl := Option.some.inj hd
                    exact j_zret (pc := 116) C hE dX9_isName_116 rfl rfl rfl
                  · have hd := ob_pos c17 hd
                    refine j_aload_n (pc := 84) C dX9_isName_84 rfl 0 rfl ?_
                    refine j_ldcS (pc := 85) (q := (RX9, 77, "lends", 8)) C dX9_isName_85 (List.mem_of_getElem? (i := 8) rfl) rfl ?_
                    obtain ⟨q18, eq18, hd⟩ := ob_bind hd
                    refine j_callV (pc := 87) (q0 := 0) (ci := 9) (As := [.ref (G.2.2.2.2.2.1 8)]) (rest := []) (st2 := [.int (b2i q18)]) (ws2 := wd_X9_isName G a_t a_t_bytes t_size t_token t_place t_number t_name t_position t_stop t_bytes) C (ct_X9_isWord l G a_t a_t_bytes t_size t_token t_place t_number t_name t_position t_stop t_bytes 8 (by decide) q18 eq18) jy_X9_isWord dX9_isName_87 gX9_isName_X9_isWord rfl rfl (by decide) ⟨Nat.zero_le _, Nat.zero_le _⟩ [0, 1] rfl rfl (jpt_eq rfl rfl rfl) rfl rfl rfl (Nat.le_of_ble_eq_true rfl) rfl ?_
                    refine j_ifb_ne (pc := 90) (tgt := 115) C dX9_isName_90 (by decide) (fun c19 => ?_) (fun c19 => ?_)
                    · have hd := ob_pos c19 hd
                      refine j_iconst (pc := 115) (v := 0) C dX9_isName_115 jk_I0 ?_
                      obtain rfl := Option.some.inj hd
                      exact j_zret (pc := 116) C hE dX9_isName_116 rfl rfl rfl
                    · have hd := ob_neg c19 hd
                      refine j_aload_n (pc := 93) C dX9_isName_93 rfl 0 rfl ?_
                      refine j_ldcS (pc := 94) (q := (RX9, 79, "borrows", 9)) C dX9_isName_94 (List.mem_of_getElem? (i := 9) rfl) rfl ?_
                      obtain ⟨q20, eq20, hd⟩ := ob_bind hd
                      refine j_callV (pc := 96) (q0 := 0) (ci := 9) (As := [.ref (G.2.2.2.2.2.1 9)]) (rest := []) (st2 := [.int (b2i q20)]) (ws2 := wd_X9_isName G a_t a_t_bytes t_size t_token t_place t_number t_name t_position t_stop t_bytes) C (ct_X9_isWord l G a_t a_t_bytes t_size t_token t_place t_number t_name t_position t_stop t_bytes 9 (by decide) q20 eq20) jy_X9_isWord dX9_isName_96 gX9_isName_X9_isWord rfl rfl (by decide) ⟨Nat.zero_le _, Nat.zero_le _⟩ [0, 1] rfl rfl (jpt_eq rfl rfl rfl) rfl rfl rfl (Nat.le_of_ble_eq_true rfl) rfl ?_
                      refine j_ifb_ne (pc := 99) (tgt := 115) C dX9_isName_99 (by decide) (fun c21 => ?_) (fun c21 => ?_)
                      · have hd := ob_pos c21 hd
                        refine j_iconst (pc := 115) (v := 0) C dX9_isName_115 jk_I0 ?_
                        obtain rfl := Option.some.inj hd
                        exact j_zret (pc := 116) C hE dX9_isName_116 rfl rfl rfl
                      · have hd := ob_neg c21 hd
                        refine j_aload_n (pc := 102) C dX9_isName_102 rfl 0 rfl ?_
                        refine j_ldcS (pc := 103) (q := (RX9, 81, "turned", 10)) C dX9_isName_103 (List.mem_of_getElem? (i := 10) rfl) rfl ?_
                        obtain ⟨q22, eq22, hd⟩ := ob_bind hd
                        refine j_callV (pc := 105) (q0 := 0) (ci := 9) (As := [.ref (G.2.2.2.2.2.1 10)]) (rest := []) (st2 := [.int (b2i q22)]) (ws2 := wd_X9_isName G a_t a_t_bytes t_size t_token t_place t_number t_name t_position t_stop t_bytes) C (ct_X9_isWord l G a_t a_t_bytes t_size t_token t_place t_number t_name t_position t_stop t_bytes 10 (by decide) q22 eq22) jy_X9_isWord dX9_isName_105 gX9_isName_X9_isWord rfl rfl (by decide) ⟨Nat.zero_le _, Nat.zero_le _⟩ [0, 1] rfl rfl (jpt_eq rfl rfl rfl) rfl rfl rfl (Nat.le_of_ble_eq_true rfl) rfl ?_
                        refine j_ifb_ne (pc := 108) (tgt := 115) C dX9_isName_108 (by decide) (fun c23 => ?_) (fun c23 => ?_)
                        · have hd := ob_pos c23 hd
                          refine j_iconst (pc := 115) (v := 0) C dX9_isName_115 jk_I0 ?_
                          obtain rfl := Option.some.inj hd
                          exact j_zret (pc := 116) C hE dX9_isName_116 rfl rfl rfl
                        · have hd := ob_neg c23 hd
                          refine j_iconst (pc := 111) (v := 1) C dX9_isName_111 jk_I1 ?_
                          refine j_goto (pc := 112) (tgt := 116) C dX9_isName_112 (by decide) ?_
                          obtain rfl := Option.some.inj hd
                          exact j_zret (pc := 116) C hE dX9_isName_116 rfl rfl rfl
                · have hd := ob_pos c16 hd
                  refine j_iconst (pc := 74) (v := 0) C dX9_isName_74 jk_I0 ?_
                  obtain rfl := Option.some.inj hd
                  exact j_zret (pc := 75) C hE dX9_isName_75 rfl rfl rfl
        · have hd := ob_pos c8 hd
          refine j_iconst (pc := 36) (v := 0) C dX9_isName_36 jk_I0 ?_
          obtain rfl := Option.some.inj hd
          exact j_zret (pc := 37) C hE dX9_isName_37 rfl rfl rfl
/-! ##### LendTown$Tape.hasRoomFor(I)Z -/
abbrev rm_X9_hasRoomFor : Room := { frames := 0, cells := 0, slots := 0, locals := 0 }
theorem jy_X9_hasRoomFor : jY yX9_hasRoomFor wsX9_hasRoomFor rm_X9_hasRoomFor cX9_hasRoomFor 2 (some .boolean) 1 := ⟨⟨_, rfl⟩, ⟨rfl, rfl⟩, by decide, by decide, by decide +kernel⟩
theorem in_X9_hasRoomFor_X9 : ∀ w ∈ u_ws RX9 TX9 8, w ∈ wsX9_hasRoomFor := fun w h => List.mem_cons_of_mem _ (List.mem_append_right _ (h))
theorem fl_X9_hasRoomFor_13 : Cond.fieldLink RX9 13 "LendTown$Tape" "size" "I" ∈ wsX9_hasRoomFor := List.mem_of_getElem? (i := 1) rfl
def wd_X9_hasRoomFor (G : jG) (a_t : Nat) (a_t_bytes : Nat) (t_size : Int32) (t_token : Int32) (t_place : Int32) (t_number : Int32) (t_name : Int64) (t_position : Int32) (t_stop : Int32) : va_W := [(a_t, .inr (9, [.ref a_t_bytes, .int t_size, .int t_token, .int t_place, .int t_number, .long t_name, .int t_position, .int t_stop]))]
set_option maxHeartbeats 8000000 in
set_option maxRecDepth 100000 in
theorem ct_X9_hasRoomFor (l : Launch) (G : jG) (a_t : Nat) (a_t_bytes : Nat) (t_size : Int32) (t_token : Int32) (t_place : Int32) (t_number : Int32) (t_name : Int64) (t_position : Int32) (t_stop : Int32) (p1 : Int32) (r : Bool) (hd : dn_X9_hasRoomFor t_size p1 = some r) : jM l G yX9_hasRoomFor wsX9_hasRoomFor rm_X9_hasRoomFor [.ref a_t, .int p1] (wd_X9_hasRoomFor G a_t a_t_bytes t_size t_token t_place t_number t_name t_position t_stop) (some (.int (b2i r))) (wd_X9_hasRoomFor G a_t a_t_bytes t_size t_token t_place t_number t_name t_position t_stop) := by
  refine jM_of (own := RX9) (by decide) rfl rfl rfl (Nat.le_of_ble_eq_true rfl) (lv0 := [(0, .ref a_t), (1, .int p1)]) rfl (fun X C hE => ?_)
  unfold dn_X9_hasRoomFor at hd
  refine j_aload_n (pc := 0) C dX9_hasRoomFor_0 rfl 0 rfl ?_
  refine j_get (pc := 1) (q0 := 0) (ci := 9) (kf := 1) C dX9_hasRoomFor_1 in_X9_hasRoomFor_X9 rfl (by decide) fl_X9_hasRoomFor_13 rfl rfl ?_
  refine j_iload_n (pc := 4) C dX9_hasRoomFor_4 rfl 1 rfl ?_
  refine j_iadd (pc := 5) C dX9_hasRoomFor_5 ?_
  refine j_sipush (pc := 6) (v := 940) C dX9_hasRoomFor_6 jk_S940 ?_
  refine j_icmp_gt (pc := 9) (tgt := 16) C dX9_hasRoomFor_9 (by decide) (fun c1 => ?_) (fun c1 => ?_)
  · have hd := ob_pos c1 hd
    refine j_iconst (pc := 16) (v := 0) C dX9_hasRoomFor_16 jk_I0 ?_
    obtain rfl := Option.some.inj hd
    exact j_zret (pc := 17) C hE dX9_hasRoomFor_17 rfl rfl rfl
  · have hd := ob_neg c1 hd
    refine j_iconst (pc := 12) (v := 1) C dX9_hasRoomFor_12 jk_I1 ?_
    refine j_goto (pc := 13) (tgt := 17) C dX9_hasRoomFor_13 (by decide) ?_
    obtain rfl := Option.some.inj hd
    exact j_zret (pc := 17) C hE dX9_hasRoomFor_17 rfl rfl rfl
/-! ##### LendTown$Tape.addNumber(I)V -/
abbrev rm_X9_addNumber : Room := { frames := 0, cells := 0, slots := 0, locals := 0 }
theorem jy_X9_addNumber : jY yX9_addNumber wsX9_addNumber rm_X9_addNumber cX9_addNumber 3 none 1 := ⟨⟨_, rfl⟩, ⟨rfl, rfl⟩, by decide, by decide, by decide +kernel⟩
theorem in_X9_addNumber_X9 : ∀ w ∈ u_ws RX9 TX9 8, w ∈ wsX9_addNumber := fun w h => List.mem_cons_of_mem _ (List.mem_append_right _ (h))
theorem fl_X9_addNumber_13 : Cond.fieldLink RX9 13 "LendTown$Tape" "size" "I" ∈ wsX9_addNumber := List.mem_of_getElem? (i := 1) rfl
theorem fl_X9_addNumber_9 : Cond.fieldLink RX9 9 "LendTown$Tape" "bytes" "[B" ∈ wsX9_addNumber := List.mem_of_getElem? (i := 2) rfl
def wd_X9_addNumber (G : jG) (a_t : Nat) (a_t_bytes : Nat) (t_size : Int32) (t_token : Int32) (t_place : Int32) (t_number : Int32) (t_name : Int64) (t_position : Int32) (t_stop : Int32) (t_bytes : Nat → Int32) : va_W := [(a_t, .inr (9, [.ref a_t_bytes, .int t_size, .int t_token, .int t_place, .int t_number, .long t_name, .int t_position, .int t_stop])), (a_t_bytes, .inl (G.2.1, 940, .inl t_bytes))]
set_option maxHeartbeats 8000000 in
set_option maxRecDepth 100000 in
theorem lb_X9_addNumber_0 (l : Launch) (G : jG) (a_t : Nat) (a_t_bytes : Nat) (t_token : Int32) (t_place : Int32) (t_number : Int32) (t_name : Int64) (t_position : Int32) (t_stop : Int32) (p1 : Int32) (X : jX) (C : jC X l G 3 rm_X9_addNumber cX9_addNumber RX9 wsX9_addNumber) (r : (Nat → Int32) × Int32) (hE : jE X none none (wd_X9_addNumber G a_t a_t_bytes r.2 t_token t_place t_number t_name t_position t_stop r.1)) (n : Nat) (IH0 : ∀ (v2 : Int32) (t_bytes : Nat → Int32) (t_size : Int32), lpN (st_X9_addNumber p1) n ((v2, t_bytes, t_size)) = some r → J X 0 0 (wd_X9_addNumber G a_t a_t_bytes t_size t_token t_place t_number t_name t_position t_stop t_bytes) [(0, .ref a_t), (1, .int p1), (2, .int v2)] 3 []) (v2 : Int32) (t_bytes : Nat → Int32) (t_size : Int32) (hd : lpR (st_X9_addNumber p1) n (bd_X9_addNumber_0 p1 v2 t_bytes t_size) = some r) : J X 0 0 (wd_X9_addNumber G a_t a_t_bytes t_size t_token t_place t_number t_name t_position t_stop t_bytes) [(0, .ref a_t), (1, .int p1), (2, .int v2)] 3 [] := by
  unfold bd_X9_addNumber_0 at hd
  refine j_iload_n (pc := 3) C dX9_addNumber_3 rfl 2 rfl ?_
  refine j_if_lt (pc := 4) (tgt := 46) C dX9_addNumber_4 (by decide) (fun c1 => ?_) (fun c1 => ?_)
  · have hd := lp_pos c1 hd
    obtain rfl := Option.some.inj hd
    exact j_vret (pc := 46) C hE dX9_addNumber_46 rfl rfl
  · have hd := lp_neg c1 hd
    refine j_aload_n (pc := 7) C dX9_addNumber_7 rfl 0 rfl ?_
    refine j_get (pc := 8) (q0 := 0) (ci := 9) (kf := 1) C dX9_addNumber_8 in_X9_addNumber_X9 rfl (by decide) fl_X9_addNumber_13 rfl rfl ?_
    refine j_sipush (pc := 11) (v := 940) C dX9_addNumber_11 jk_S940 ?_
    refine j_icmp_ge (pc := 14) (tgt := 46) C dX9_addNumber_14 (by decide) (fun c2 => ?_) (fun c2 => ?_)
    · have hd := lp_pos c2 hd
      obtain rfl := Option.some.inj hd
      exact j_vret (pc := 46) C hE dX9_addNumber_46 rfl rfl
    · have hd := lp_neg c2 hd
      refine j_aload_n (pc := 17) C dX9_addNumber_17 rfl 0 rfl ?_
      refine j_get (pc := 18) (q0 := 0) (ci := 9) (kf := 0) C dX9_addNumber_18 in_X9_addNumber_X9 rfl (by decide) fl_X9_addNumber_9 rfl rfl ?_
      refine j_aload_n (pc := 21) C dX9_addNumber_21 rfl 0 rfl ?_
      refine j_get (pc := 22) (q0 := 0) (ci := 9) (kf := 1) C dX9_addNumber_22 in_X9_addNumber_X9 rfl (by decide) fl_X9_addNumber_13 rfl rfl ?_
      refine j_iload_n (pc := 25) C dX9_addNumber_25 rfl 1 rfl ?_
      refine j_iload_n (pc := 26) C dX9_addNumber_26 rfl 2 rfl ?_
      refine j_iushr (pc := 27) C dX9_addNumber_27 ?_
      refine j_i2b (pc := 28) C dX9_addNumber_28 ?_
      obtain ⟨h3, hd⟩ := lp_chk hd
      refine j_bast (pc := 29) (q0 := 1) (ws2 := wd_X9_addNumber G a_t a_t_bytes t_size t_token t_place t_number t_name t_position t_stop (upd t_bytes (t_size).toNatClampNeg (vp_nar .byte ((Int32.toInt8 ((p1.toUInt32 >>> ((v2 : Int32).toUInt32 &&& Int32.toUInt32 31)).toInt32)).toInt32)))) C dX9_addNumber_29 rfl h3 rfl ?_
      refine j_aload_n (pc := 30) C dX9_addNumber_30 rfl 0 rfl ?_
      refine j_dup (pc := 31) C dX9_addNumber_31 rfl ?_
      refine j_get (pc := 32) (q0 := 0) (ci := 9) (kf := 1) C dX9_addNumber_32 in_X9_addNumber_X9 rfl (by decide) fl_X9_addNumber_13 rfl rfl ?_
      refine j_iconst (pc := 35) (v := 1) C dX9_addNumber_35 jk_I1 ?_
      refine j_iadd (pc := 36) C dX9_addNumber_36 ?_
      refine j_put (pc := 37) (q0 := 0) (ci := 9) (kf := 1) (ws2 := wd_X9_addNumber G a_t a_t_bytes (t_size + 1) t_token t_place t_number t_name t_position t_stop (upd t_bytes (t_size).toNatClampNeg (vp_nar .byte ((Int32.toInt8 ((p1.toUInt32 >>> ((v2 : Int32).toUInt32 &&& Int32.toUInt32 31)).toInt32)).toInt32)))) C dX9_addNumber_37 in_X9_addNumber_X9 tyX9 tyX9_ok nmX9 rfl (by decide) fl_X9_addNumber_13 rfl rfl rfl rfl (Nat.le_of_ble_eq_true rfl) rfl ?_
      refine j_iinc (pc := 40) (lv2 := [(0, .ref a_t), (1, .int p1), (2, .int (v2 + (-8)))]) C dX9_addNumber_40 jk_Im8 (by decide) 2 rfl [1, 2, 0] rfl ?_
      refine j_goto (pc := 43) (tgt := 3) C dX9_addNumber_43 (by decide) ?_
      refine j_sub (lv2 := [(0, .ref a_t), (1, .int p1), (2, .int (v2 + (-8)))]) [0, 1, 2] rfl ?_
      exact IH0 (v2 + (-8)) (upd t_bytes (t_size).toNatClampNeg (vp_nar .byte ((Int32.toInt8 ((p1.toUInt32 >>> ((v2 : Int32).toUInt32 &&& Int32.toUInt32 31)).toInt32)).toInt32))) (t_size + 1) hd
set_option maxHeartbeats 8000000 in
set_option maxRecDepth 100000 in
theorem la_X9_addNumber (l : Launch) (G : jG) (a_t : Nat) (a_t_bytes : Nat) (t_token : Int32) (t_place : Int32) (t_number : Int32) (t_name : Int64) (t_position : Int32) (t_stop : Int32) (p1 : Int32) (X : jX) (C : jC X l G 3 rm_X9_addNumber cX9_addNumber RX9 wsX9_addNumber) (r : (Nat → Int32) × Int32) (hE : jE X none none (wd_X9_addNumber G a_t a_t_bytes r.2 t_token t_place t_number t_name t_position t_stop r.1)) (n : Nat) : (∀ (v2 : Int32) (t_bytes : Nat → Int32) (t_size : Int32), lpN (st_X9_addNumber p1) n ((v2, t_bytes, t_size)) = some r → J X 0 0 (wd_X9_addNumber G a_t a_t_bytes t_size t_token t_place t_number t_name t_position t_stop t_bytes) [(0, .ref a_t), (1, .int p1), (2, .int v2)] 3 []) := by
  induction n with
  | zero => exact (fun v2 t_bytes t_size h => by cases h)
  | succ n ih => exact (fun v2 t_bytes t_size h => lb_X9_addNumber_0 l G a_t a_t_bytes t_token t_place t_number t_name t_position t_stop p1 X C r hE n (ih) v2 t_bytes t_size (by rw [lpN_succ] at h; exact h))
set_option maxHeartbeats 8000000 in
set_option maxRecDepth 100000 in
theorem ct_X9_addNumber (l : Launch) (G : jG) (a_t : Nat) (a_t_bytes : Nat) (t_size : Int32) (t_token : Int32) (t_place : Int32) (t_number : Int32) (t_name : Int64) (t_position : Int32) (t_stop : Int32) (t_bytes : Nat → Int32) (p1 : Int32) (r : (Nat → Int32) × Int32) (hd : dn_X9_addNumber t_size t_bytes p1 = some r) : jM l G yX9_addNumber wsX9_addNumber rm_X9_addNumber [.ref a_t, .int p1] (wd_X9_addNumber G a_t a_t_bytes t_size t_token t_place t_number t_name t_position t_stop t_bytes) none (wd_X9_addNumber G a_t a_t_bytes r.2 t_token t_place t_number t_name t_position t_stop r.1) := by
  refine jM_of (own := RX9) (by decide) rfl rfl rfl (Nat.le_of_ble_eq_true rfl) (lv0 := [(0, .ref a_t), (1, .int p1)]) rfl (fun X C hE => ?_)
  unfold dn_X9_addNumber at hd
  refine j_bipush (pc := 0) (v := 24) C dX9_addNumber_0 jk_B24 ?_
  refine j_istore_n (pc := 2) (lv2 := [(0, .ref a_t), (1, .int p1), (2, .int 24)]) C dX9_addNumber_2 rfl (by decide) [1, 2, 0] rfl ?_
  refine j_sub (lv2 := [(0, .ref a_t), (1, .int p1), (2, .int 24)]) [0, 1, 2] rfl ?_
  obtain ⟨n, hn⟩ := lpC_ex hd
  exact (la_X9_addNumber l G a_t a_t_bytes t_token t_place t_number t_name t_position t_stop p1 X C r hE n) 24 t_bytes t_size hn
/-! ##### LendTown$Tape.cut(I)V -/
abbrev rm_X9_cut : Room := { frames := 0, cells := 0, slots := 0, locals := 0 }
theorem jy_X9_cut : jY yX9_cut wsX9_cut rm_X9_cut cX9_cut 2 none 1 := ⟨⟨_, rfl⟩, ⟨rfl, rfl⟩, by decide, by decide, by decide +kernel⟩
theorem in_X9_cut_X9 : ∀ w ∈ u_ws RX9 TX9 8, w ∈ wsX9_cut := fun w h => List.mem_cons_of_mem _ (List.mem_append_right _ (h))
theorem fl_X9_cut_13 : Cond.fieldLink RX9 13 "LendTown$Tape" "size" "I" ∈ wsX9_cut := List.mem_of_getElem? (i := 1) rfl
def wd_X9_cut (G : jG) (a_t : Nat) (a_t_bytes : Nat) (t_size : Int32) (t_token : Int32) (t_place : Int32) (t_number : Int32) (t_name : Int64) (t_position : Int32) (t_stop : Int32) : va_W := [(a_t, .inr (9, [.ref a_t_bytes, .int t_size, .int t_token, .int t_place, .int t_number, .long t_name, .int t_position, .int t_stop]))]
set_option maxHeartbeats 8000000 in
set_option maxRecDepth 100000 in
theorem ct_X9_cut (l : Launch) (G : jG) (a_t : Nat) (a_t_bytes : Nat) (t_size : Int32) (t_token : Int32) (t_place : Int32) (t_number : Int32) (t_name : Int64) (t_position : Int32) (t_stop : Int32) (p1 : Int32) (r : Int32) (hd : dn_X9_cut p1 = some r) : jM l G yX9_cut wsX9_cut rm_X9_cut [.ref a_t, .int p1] (wd_X9_cut G a_t a_t_bytes t_size t_token t_place t_number t_name t_position t_stop) none (wd_X9_cut G a_t a_t_bytes r t_token t_place t_number t_name t_position t_stop) := by
  refine jM_of (own := RX9) (by decide) rfl rfl rfl (Nat.le_of_ble_eq_true rfl) (lv0 := [(0, .ref a_t), (1, .int p1)]) rfl (fun X C hE => ?_)
  unfold dn_X9_cut at hd
  refine j_aload_n (pc := 0) C dX9_cut_0 rfl 0 rfl ?_
  refine j_iload_n (pc := 1) C dX9_cut_1 rfl 1 rfl ?_
  refine j_put (pc := 2) (q0 := 0) (ci := 9) (kf := 1) (ws2 := wd_X9_cut G a_t a_t_bytes p1 t_token t_place t_number t_name t_position t_stop) C dX9_cut_2 in_X9_cut_X9 tyX9 tyX9_ok nmX9 rfl (by decide) fl_X9_cut_13 rfl rfl rfl rfl (Nat.le_of_ble_eq_true rfl) rfl ?_
  obtain rfl := Option.some.inj hd
  exact j_vret (pc := 5) C hE dX9_cut_5 rfl rfl
