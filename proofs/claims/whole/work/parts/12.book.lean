/-! ##### LendTown$Book.clear()V -/
abbrev rm_X0_clear : Room := { frames := 0, cells := 0, slots := 0, locals := 0 }
theorem jy_X0_clear : jY yX0_clear wsX0_clear rm_X0_clear cX0_clear 1 none 0 := ⟨⟨_, rfl⟩, ⟨rfl, rfl⟩, by decide, by decide, by decide +kernel⟩
theorem in_X0_clear_X0 : ∀ w ∈ u_ws RX0 TX0 4, w ∈ wsX0_clear := fun w h => List.mem_cons_of_mem _ (List.mem_append_right _ (h))
theorem fl_X0_clear_21 : Cond.fieldLink RX0 21 "LendTown$Book" "size" "I" ∈ wsX0_clear := List.mem_of_getElem? (i := 1) rfl
def wd_X0_clear (G : jG) (a_t : Nat) (a_t_deal : Nat) (a_t_way : Nat) (a_t_foundNothing : Nat) (t_size : Int32) : va_W := [(a_t, .inr (0, [.ref a_t_deal, .ref a_t_way, .ref a_t_foundNothing, .int t_size]))]
set_option maxHeartbeats 8000000 in
set_option maxRecDepth 100000 in
theorem ct_X0_clear (l : Launch) (G : jG) (a_t : Nat) (a_t_deal : Nat) (a_t_way : Nat) (a_t_foundNothing : Nat) (t_size : Int32)  (r : Int32) (hd : dn_X0_clear  = some r) : jM l G yX0_clear wsX0_clear rm_X0_clear [.ref a_t] (wd_X0_clear G a_t a_t_deal a_t_way a_t_foundNothing t_size) none (wd_X0_clear G a_t a_t_deal a_t_way a_t_foundNothing r) := by
  refine jM_of (own := RX0) (by decide) rfl rfl rfl (Nat.le_of_ble_eq_true rfl) (lv0 := [(0, .ref a_t)]) rfl (fun X C hE => ?_)
  unfold dn_X0_clear at hd
  refine j_aload_n (pc := 0) C dX0_clear_0 rfl 0 rfl ?_
  refine j_iconst (pc := 1) (v := 0) C dX0_clear_1 jk_I0 ?_
  refine j_put (pc := 2) (q0 := 0) (ci := 0) (kf := 3) (ws2 := wd_X0_clear G a_t a_t_deal a_t_way a_t_foundNothing 0) C dX0_clear_2 in_X0_clear_X0 tyX0 tyX0_ok nmX0 rfl (by decide) fl_X0_clear_21 rfl rfl rfl rfl (Nat.le_of_ble_eq_true rfl) rfl ?_
  obtain rfl := Option.some.inj hd
  exact j_vret (pc := 5) C hE dX0_clear_5 rfl rfl
/-! ##### LendTown$Book.copyFrom(LLendTown$Book;)V -/
abbrev rm_X0_copyFrom : Room := { frames := 1, cells := 0, slots := 0, locals := 64 }
theorem jy_X0_copyFrom : jY yX0_copyFrom wsX0_copyFrom rm_X0_copyFrom cX0_copyFrom 2 none 1 := ⟨⟨_, rfl⟩, ⟨rfl, rfl⟩, by decide, by decide, by decide +kernel⟩
theorem in_X0_copyFrom_X0 : ∀ w ∈ u_ws RX0 TX0 4, w ∈ wsX0_copyFrom := fun w h => List.mem_cons_of_mem _ (List.mem_append_right _ (h))
theorem fl_X0_copyFrom_9 : Cond.fieldLink RX0 9 "LendTown$Book" "deal" "[I" ∈ wsX0_copyFrom := List.mem_of_getElem? (i := 1) rfl
theorem fl_X0_copyFrom_15 : Cond.fieldLink RX0 15 "LendTown$Book" "way" "[I" ∈ wsX0_copyFrom := List.mem_of_getElem? (i := 6) rfl
theorem fl_X0_copyFrom_18 : Cond.fieldLink RX0 18 "LendTown$Book" "foundNothing" "[I" ∈ wsX0_copyFrom := List.mem_of_getElem? (i := 7) rfl
theorem fl_X0_copyFrom_21 : Cond.fieldLink RX0 21 "LendTown$Book" "size" "I" ∈ wsX0_copyFrom := List.mem_of_getElem? (i := 8) rfl
def wd_X0_copyFrom (G : jG) (a_t : Nat) (a_t_deal : Nat) (a_t_foundNothing : Nat) (a_t_way : Nat) (a_p1 : Nat) (a_p1_deal : Nat) (a_p1_foundNothing : Nat) (a_p1_way : Nat) (t_size : Int32) (t_deal : Nat → Int32) (t_foundNothing : Nat → Int32) (t_way : Nat → Int32) (p1_size : Int32) (p1_deal : Nat → Int32) (p1_foundNothing : Nat → Int32) (p1_way : Nat → Int32) : va_W := [(a_t, .inr (0, [.ref a_t_deal, .ref a_t_way, .ref a_t_foundNothing, .int t_size])), (a_t_deal, .inl (G.2.2.1, 30, .inl t_deal)), (a_t_foundNothing, .inl (G.2.2.1, 30, .inl t_foundNothing)), (a_t_way, .inl (G.2.2.1, 30, .inl t_way)), (a_p1, .inr (0, [.ref a_p1_deal, .ref a_p1_way, .ref a_p1_foundNothing, .int p1_size])), (a_p1_deal, .inl (G.2.2.1, 30, .inl p1_deal)), (a_p1_foundNothing, .inl (G.2.2.1, 30, .inl p1_foundNothing)), (a_p1_way, .inl (G.2.2.1, 30, .inl p1_way))]
set_option maxHeartbeats 8000000 in
set_option maxRecDepth 100000 in
theorem ct_X0_copyFrom (l : Launch) (G : jG) (a_t : Nat) (a_t_deal : Nat) (a_t_foundNothing : Nat) (a_t_way : Nat) (a_p1 : Nat) (a_p1_deal : Nat) (a_p1_foundNothing : Nat) (a_p1_way : Nat) (t_size : Int32) (t_deal : Nat → Int32) (t_foundNothing : Nat → Int32) (t_way : Nat → Int32) (p1_size : Int32) (p1_deal : Nat → Int32) (p1_foundNothing : Nat → Int32) (p1_way : Nat → Int32)  (r : (Nat → Int32) × (Nat → Int32) × (Nat → Int32) × Int32) (hd : dn_X0_copyFrom t_deal t_foundNothing t_way p1_size p1_deal p1_foundNothing p1_way = some r) : jM l G yX0_copyFrom wsX0_copyFrom rm_X0_copyFrom [.ref a_t, .ref a_p1] (wd_X0_copyFrom G a_t a_t_deal a_t_foundNothing a_t_way a_p1 a_p1_deal a_p1_foundNothing a_p1_way t_size t_deal t_foundNothing t_way p1_size p1_deal p1_foundNothing p1_way) none (wd_X0_copyFrom G a_t a_t_deal a_t_foundNothing a_t_way a_p1 a_p1_deal a_p1_foundNothing a_p1_way r.2.2.2 r.1 r.2.2.1 r.2.1 p1_size p1_deal p1_foundNothing p1_way) := by
  refine jM_of (own := RX0) (by decide) rfl rfl rfl (Nat.le_of_ble_eq_true rfl) (lv0 := [(0, .ref a_t), (1, .ref a_p1)]) rfl (fun X C hE => ?_)
  unfold dn_X0_copyFrom at hd
  refine j_aload_n (pc := 0) C dX0_copyFrom_0 rfl 1 rfl ?_
  refine j_get (pc := 1) (q0 := 4) (ci := 0) (kf := 0) C dX0_copyFrom_1 in_X0_copyFrom_X0 rfl (by decide) fl_X0_copyFrom_9 rfl rfl ?_
  refine j_iconst (pc := 4) (v := 0) C dX0_copyFrom_4 jk_I0 ?_
  refine j_aload_n (pc := 5) C dX0_copyFrom_5 rfl 0 rfl ?_
  refine j_get (pc := 6) (q0 := 0) (ci := 0) (kf := 0) C dX0_copyFrom_6 in_X0_copyFrom_X0 rfl (by decide) fl_X0_copyFrom_9 rfl rfl ?_
  refine j_iconst (pc := 9) (v := 0) C dX0_copyFrom_9 jk_I0 ?_
  refine j_bipush (pc := 10) (v := 30) C dX0_copyFrom_10 jk_B30 ?_
  refine j_copyi (pc := 12) (q0 := 5) (q1 := 1) (ws2 := wd_X0_copyFrom G a_t a_t_deal a_t_foundNothing a_t_way a_p1 a_p1_deal a_p1_foundNothing a_p1_way t_size (va_cpy p1_deal t_deal (0 : Int32).toNatClampNeg (0 : Int32).toNatClampNeg (30 : Int32).toNatClampNeg) t_foundNothing t_way p1_size p1_deal p1_foundNothing p1_way) C dX0_copyFrom_12 (List.mem_of_getElem? (i := 2) rfl) (List.mem_of_getElem? (i := 3) rfl) (List.mem_of_getElem? (i := 4) rfl) (List.mem_of_getElem? (i := 5) rfl) rfl rfl (by decide) (by decide) (by decide) (by decide) (by decide) (by decide) (Nat.le_of_ble_eq_true rfl) rfl ?_
  refine j_aload_n (pc := 15) C dX0_copyFrom_15 rfl 1 rfl ?_
  refine j_get (pc := 16) (q0 := 4) (ci := 0) (kf := 1) C dX0_copyFrom_16 in_X0_copyFrom_X0 rfl (by decide) fl_X0_copyFrom_15 rfl rfl ?_
  refine j_iconst (pc := 19) (v := 0) C dX0_copyFrom_19 jk_I0 ?_
  refine j_aload_n (pc := 20) C dX0_copyFrom_20 rfl 0 rfl ?_
  refine j_get (pc := 21) (q0 := 0) (ci := 0) (kf := 1) C dX0_copyFrom_21 in_X0_copyFrom_X0 rfl (by decide) fl_X0_copyFrom_15 rfl rfl ?_
  refine j_iconst (pc := 24) (v := 0) C dX0_copyFrom_24 jk_I0 ?_
  refine j_bipush (pc := 25) (v := 30) C dX0_copyFrom_25 jk_B30 ?_
  refine j_copyi (pc := 27) (q0 := 7) (q1 := 3) (ws2 := wd_X0_copyFrom G a_t a_t_deal a_t_foundNothing a_t_way a_p1 a_p1_deal a_p1_foundNothing a_p1_way t_size (va_cpy p1_deal t_deal (0 : Int32).toNatClampNeg (0 : Int32).toNatClampNeg (30 : Int32).toNatClampNeg) t_foundNothing (va_cpy p1_way t_way (0 : Int32).toNatClampNeg (0 : Int32).toNatClampNeg (30 : Int32).toNatClampNeg) p1_size p1_deal p1_foundNothing p1_way) C dX0_copyFrom_27 (List.mem_of_getElem? (i := 2) rfl) (List.mem_of_getElem? (i := 3) rfl) (List.mem_of_getElem? (i := 4) rfl) (List.mem_of_getElem? (i := 5) rfl) rfl rfl (by decide) (by decide) (by decide) (by decide) (by decide) (by decide) (Nat.le_of_ble_eq_true rfl) rfl ?_
  refine j_aload_n (pc := 30) C dX0_copyFrom_30 rfl 1 rfl ?_
  refine j_get (pc := 31) (q0 := 4) (ci := 0) (kf := 2) C dX0_copyFrom_31 in_X0_copyFrom_X0 rfl (by decide) fl_X0_copyFrom_18 rfl rfl ?_
  refine j_iconst (pc := 34) (v := 0) C dX0_copyFrom_34 jk_I0 ?_
  refine j_aload_n (pc := 35) C dX0_copyFrom_35 rfl 0 rfl ?_
  refine j_get (pc := 36) (q0 := 0) (ci := 0) (kf := 2) C dX0_copyFrom_36 in_X0_copyFrom_X0 rfl (by decide) fl_X0_copyFrom_18 rfl rfl ?_
  refine j_iconst (pc := 39) (v := 0) C dX0_copyFrom_39 jk_I0 ?_
  refine j_bipush (pc := 40) (v := 30) C dX0_copyFrom_40 jk_B30 ?_
  refine j_copyi (pc := 42) (q0 := 6) (q1 := 2) (ws2 := wd_X0_copyFrom G a_t a_t_deal a_t_foundNothing a_t_way a_p1 a_p1_deal a_p1_foundNothing a_p1_way t_size (va_cpy p1_deal t_deal (0 : Int32).toNatClampNeg (0 : Int32).toNatClampNeg (30 : Int32).toNatClampNeg) (va_cpy p1_foundNothing t_foundNothing (0 : Int32).toNatClampNeg (0 : Int32).toNatClampNeg (30 : Int32).toNatClampNeg) (va_cpy p1_way t_way (0 : Int32).toNatClampNeg (0 : Int32).toNatClampNeg (30 : Int32).toNatClampNeg) p1_size p1_deal p1_foundNothing p1_way) C dX0_copyFrom_42 (List.mem_of_getElem? (i := 2) rfl) (List.mem_of_getElem? (i := 3) rfl) (List.mem_of_getElem? (i := 4) rfl) (List.mem_of_getElem? (i := 5) rfl) rfl rfl (by decide) (by decide) (by decide) (by decide) (by decide) (by decide) (Nat.le_of_ble_eq_true rfl) rfl ?_
  refine j_aload_n (pc := 45) C dX0_copyFrom_45 rfl 0 rfl ?_
  refine j_aload_n (pc := 46) C dX0_copyFrom_46 rfl 1 rfl ?_
  refine j_get (pc := 47) (q0 := 4) (ci := 0) (kf := 3) C dX0_copyFrom_47 in_X0_copyFrom_X0 rfl (by decide) fl_X0_copyFrom_21 rfl rfl ?_
  refine j_put (pc := 50) (q0 := 0) (ci := 0) (kf := 3) (ws2 := wd_X0_copyFrom G a_t a_t_deal a_t_foundNothing a_t_way a_p1 a_p1_deal a_p1_foundNothing a_p1_way p1_size (va_cpy p1_deal t_deal (0 : Int32).toNatClampNeg (0 : Int32).toNatClampNeg (30 : Int32).toNatClampNeg) (va_cpy p1_foundNothing t_foundNothing (0 : Int32).toNatClampNeg (0 : Int32).toNatClampNeg (30 : Int32).toNatClampNeg) (va_cpy p1_way t_way (0 : Int32).toNatClampNeg (0 : Int32).toNatClampNeg (30 : Int32).toNatClampNeg) p1_size p1_deal p1_foundNothing p1_way) C dX0_copyFrom_50 in_X0_copyFrom_X0 tyX0 tyX0_ok nmX0 rfl (by decide) fl_X0_copyFrom_21 rfl rfl rfl rfl (Nat.le_of_ble_eq_true rfl) rfl ?_
  obtain rfl := Option.some.inj hd
  exact j_vret (pc := 53) C hE dX0_copyFrom_53 rfl rfl
/-! ##### LendTown$Book.wayDone(I)I -/
abbrev rm_X0_wayDone : Room := { frames := 0, cells := 0, slots := 0, locals := 0 }
theorem jy_X0_wayDone : jY yX0_wayDone wsX0_wayDone rm_X0_wayDone cX0_wayDone 3 (some .int) 1 := ⟨⟨_, rfl⟩, ⟨rfl, rfl⟩, by decide, by decide, by decide +kernel⟩
theorem in_X0_wayDone_X0 : ∀ w ∈ u_ws RX0 TX0 4, w ∈ wsX0_wayDone := fun w h => List.mem_cons_of_mem _ (List.mem_append_right _ (h))
theorem fl_X0_wayDone_21 : Cond.fieldLink RX0 21 "LendTown$Book" "size" "I" ∈ wsX0_wayDone := List.mem_of_getElem? (i := 1) rfl
theorem fl_X0_wayDone_9 : Cond.fieldLink RX0 9 "LendTown$Book" "deal" "[I" ∈ wsX0_wayDone := List.mem_of_getElem? (i := 2) rfl
theorem fl_X0_wayDone_15 : Cond.fieldLink RX0 15 "LendTown$Book" "way" "[I" ∈ wsX0_wayDone := List.mem_of_getElem? (i := 3) rfl
def wd_X0_wayDone (G : jG) (a_t : Nat) (a_t_deal : Nat) (a_t_way : Nat) (a_t_foundNothing : Nat) (t_size : Int32) (t_deal : Nat → Int32) (t_way : Nat → Int32) : va_W := [(a_t, .inr (0, [.ref a_t_deal, .ref a_t_way, .ref a_t_foundNothing, .int t_size])), (a_t_deal, .inl (G.2.2.1, 30, .inl t_deal)), (a_t_way, .inl (G.2.2.1, 30, .inl t_way))]
set_option maxHeartbeats 8000000 in
set_option maxRecDepth 100000 in
theorem lb_X0_wayDone_0 (l : Launch) (G : jG) (a_t : Nat) (a_t_deal : Nat) (a_t_way : Nat) (a_t_foundNothing : Nat) (t_size : Int32) (t_deal : Nat → Int32) (t_way : Nat → Int32) (p1 : Int32) (X : jX) (C : jC X l G 3 rm_X0_wayDone cX0_wayDone RX0 wsX0_wayDone) (r : Int32) (hE : jE X (some .int) (some (.int r)) (wd_X0_wayDone G a_t a_t_deal a_t_way a_t_foundNothing t_size t_deal t_way)) (n : Nat) (IH0 : ∀ (v2 : Int32), lpN (st_X0_wayDone t_size t_deal t_way p1) n (v2) = some r → J X 0 0 (wd_X0_wayDone G a_t a_t_deal a_t_way a_t_foundNothing t_size t_deal t_way) [(0, .ref a_t), (1, .int p1), (2, .int v2)] 2 []) (v2 : Int32) (hd : lpR (st_X0_wayDone t_size t_deal t_way p1) n (bd_X0_wayDone_0 t_size t_deal t_way p1 v2) = some r) : J X 0 0 (wd_X0_wayDone G a_t a_t_deal a_t_way a_t_foundNothing t_size t_deal t_way) [(0, .ref a_t), (1, .int p1), (2, .int v2)] 2 [] := by
  unfold bd_X0_wayDone_0 at hd
  refine j_iload_n (pc := 2) C dX0_wayDone_2 rfl 2 rfl ?_
  refine j_aload_n (pc := 3) C dX0_wayDone_3 rfl 0 rfl ?_
  refine j_get (pc := 4) (q0 := 0) (ci := 0) (kf := 3) C dX0_wayDone_4 in_X0_wayDone_X0 rfl (by decide) fl_X0_wayDone_21 rfl rfl ?_
  refine j_icmp_ge (pc := 7) (tgt := 33) C dX0_wayDone_7 (by decide) (fun c1 => ?_) (fun c1 => ?_)
  · have hd := lp_pos c1 hd
    refine j_iconst (pc := 33) (v := 0) C dX0_wayDone_33 jk_I0 ?_
    obtain rfl := Option.some.inj hd
    exact j_iret (pc := 34) C hE dX0_wayDone_34 rfl rfl
  · have hd := lp_neg c1 hd
    refine j_aload_n (pc := 10) C dX0_wayDone_10 rfl 0 rfl ?_
    refine j_get (pc := 11) (q0 := 0) (ci := 0) (kf := 0) C dX0_wayDone_11 in_X0_wayDone_X0 rfl (by decide) fl_X0_wayDone_9 rfl rfl ?_
    refine j_iload_n (pc := 14) C dX0_wayDone_14 rfl 2 rfl ?_
    obtain ⟨h2, hd⟩ := lp_chk hd
    refine j_iald (pc := 15) (q0 := 1) C dX0_wayDone_15 rfl h2 ?_
    refine j_iload_n (pc := 16) C dX0_wayDone_16 rfl 1 rfl ?_
    refine j_icmp_ne (pc := 17) (tgt := 27) C dX0_wayDone_17 (by decide) (fun c3 => ?_) (fun c3 => ?_)
    · have hd := lp_neg c3 hd
      refine j_iinc (pc := 27) (lv2 := [(0, .ref a_t), (1, .int p1), (2, .int (v2 + 1))]) C dX0_wayDone_27 jk_I1 (by decide) 2 rfl [1, 2, 0] rfl ?_
      refine j_goto (pc := 30) (tgt := 2) C dX0_wayDone_30 (by decide) ?_
      refine j_sub (lv2 := [(0, .ref a_t), (1, .int p1), (2, .int (v2 + 1))]) [0, 1, 2] rfl ?_
      exact IH0 (v2 + 1) hd
    · have hd := lp_pos c3 hd
      refine j_aload_n (pc := 20) C dX0_wayDone_20 rfl 0 rfl ?_
      refine j_get (pc := 21) (q0 := 0) (ci := 0) (kf := 1) C dX0_wayDone_21 in_X0_wayDone_X0 rfl (by decide) fl_X0_wayDone_15 rfl rfl ?_
      refine j_iload_n (pc := 24) C dX0_wayDone_24 rfl 2 rfl ?_
      obtain ⟨h4, hd⟩ := lp_chk hd
      refine j_iald (pc := 25) (q0 := 2) C dX0_wayDone_25 rfl h4 ?_
      obtain rfl := Option.some.inj hd
      exact j_iret (pc := 26) C hE dX0_wayDone_26 rfl rfl
set_option maxHeartbeats 8000000 in
set_option maxRecDepth 100000 in
theorem la_X0_wayDone (l : Launch) (G : jG) (a_t : Nat) (a_t_deal : Nat) (a_t_way : Nat) (a_t_foundNothing : Nat) (t_size : Int32) (t_deal : Nat → Int32) (t_way : Nat → Int32) (p1 : Int32) (X : jX) (C : jC X l G 3 rm_X0_wayDone cX0_wayDone RX0 wsX0_wayDone) (r : Int32) (hE : jE X (some .int) (some (.int r)) (wd_X0_wayDone G a_t a_t_deal a_t_way a_t_foundNothing t_size t_deal t_way)) (n : Nat) : (∀ (v2 : Int32), lpN (st_X0_wayDone t_size t_deal t_way p1) n (v2) = some r → J X 0 0 (wd_X0_wayDone G a_t a_t_deal a_t_way a_t_foundNothing t_size t_deal t_way) [(0, .ref a_t), (1, .int p1), (2, .int v2)] 2 []) := by
  induction n with
  | zero => exact (fun v2 h => by cases h)
  | succ n ih => exact (fun v2 h => lb_X0_wayDone_0 l G a_t a_t_deal a_t_way a_t_foundNothing t_size t_deal t_way p1 X C r hE n (ih) v2 (by rw [lpN_succ] at h; exact h))
set_option maxHeartbeats 8000000 in
set_option maxRecDepth 100000 in
theorem ct_X0_wayDone (l : Launch) (G : jG) (a_t : Nat) (a_t_deal : Nat) (a_t_way : Nat) (a_t_foundNothing : Nat) (t_size : Int32) (t_deal : Nat → Int32) (t_way : Nat → Int32) (p1 : Int32) (r : Int32) (hd : dn_X0_wayDone t_size t_deal t_way p1 = some r) : jM l G yX0_wayDone wsX0_wayDone rm_X0_wayDone [.ref a_t, .int p1] (wd_X0_wayDone G a_t a_t_deal a_t_way a_t_foundNothing t_size t_deal t_way) (some (.int r)) (wd_X0_wayDone G a_t a_t_deal a_t_way a_t_foundNothing t_size t_deal t_way) := by
  refine jM_of (own := RX0) (by decide) rfl rfl rfl (Nat.le_of_ble_eq_true rfl) (lv0 := [(0, .ref a_t), (1, .int p1)]) rfl (fun X C hE => ?_)
  unfold dn_X0_wayDone at hd
  refine j_iconst (pc := 0) (v := 0) C dX0_wayDone_0 jk_I0 ?_
  refine j_istore_n (pc := 1) (lv2 := [(0, .ref a_t), (1, .int p1), (2, .int 0)]) C dX0_wayDone_1 rfl (by decide) [1, 2, 0] rfl ?_
  refine j_sub (lv2 := [(0, .ref a_t), (1, .int p1), (2, .int 0)]) [0, 1, 2] rfl ?_
  obtain ⟨n, hn⟩ := lpC_ex hd
  exact (la_X0_wayDone l G a_t a_t_deal a_t_way a_t_foundNothing t_size t_deal t_way p1 X C r hE n) 0 hn
/-! ##### LendTown$Book.whatIs(LLendTown$Town;II)I -/
abbrev rm_X0_whatIs : Room := { frames := 0, cells := 0, slots := 0, locals := 0 }
theorem jy_X0_whatIs : jY yX0_whatIs wsX0_whatIs rm_X0_whatIs cX0_whatIs 8 (some .int) 3 := ⟨⟨_, rfl⟩, ⟨rfl, rfl⟩, by decide, by decide, by decide +kernel⟩
theorem in_X0_whatIs_X0 : ∀ w ∈ u_ws RX0 TX0 4, w ∈ wsX0_whatIs := fun w h => List.mem_cons_of_mem _ (List.mem_append_left _ (List.mem_append_right _ (h)))
theorem in_X0_whatIs_X10 : ∀ w ∈ u_ws RX10 TX10 17, w ∈ wsX0_whatIs := fun w h => List.mem_cons_of_mem _ (List.mem_append_right _ (h))
theorem fl_X0_whatIs_21 : Cond.fieldLink RX0 21 "LendTown$Book" "size" "I" ∈ wsX0_whatIs := List.mem_of_getElem? (i := 1) rfl
theorem fl_X0_whatIs_9 : Cond.fieldLink RX0 9 "LendTown$Book" "deal" "[I" ∈ wsX0_whatIs := List.mem_of_getElem? (i := 2) rfl
theorem fl_X0_whatIs_40 : Cond.fieldLink RX0 40 "LendTown$Town" "year" "[I" ∈ wsX0_whatIs := List.mem_of_getElem? (i := 3) rfl
theorem fl_X0_whatIs_18 : Cond.fieldLink RX0 18 "LendTown$Book" "foundNothing" "[I" ∈ wsX0_whatIs := List.mem_of_getElem? (i := 4) rfl
theorem fl_X0_whatIs_71 : Cond.fieldLink RX0 71 "LendTown$Town" "lawYears" "I" ∈ wsX0_whatIs := List.mem_of_getElem? (i := 5) rfl
theorem fl_X0_whatIs_15 : Cond.fieldLink RX0 15 "LendTown$Book" "way" "[I" ∈ wsX0_whatIs := List.mem_of_getElem? (i := 6) rfl
theorem fl_X0_whatIs_35 : Cond.fieldLink RX0 35 "LendTown$Town" "lender" "[I" ∈ wsX0_whatIs := List.mem_of_getElem? (i := 8) rfl
theorem fl_X0_whatIs_46 : Cond.fieldLink RX0 46 "LendTown$Town" "borrower" "[I" ∈ wsX0_whatIs := List.mem_of_getElem? (i := 7) rfl
def wd_X0_whatIs (G : jG) (a_t : Nat) (a_t_deal : Nat) (a_t_foundNothing : Nat) (a_t_way : Nat) (a_p1 : Nat) (a_p1_borrower : Nat) (a_p1_lender : Nat) (a_p1_year : Nat) (t_size : Int32) (t_deal : Nat → Int32) (t_foundNothing : Nat → Int32) (t_way : Nat → Int32) (p1_persons : Int32) (p1_deals : Int32) (p1_lawYears : Int32) (p1_toldParts : Int32) (a_p1_personNames : Nat) (a_p1_born : Nat) (a_p1_dies : Nat) (a_p1_limit : Nat) (a_p1_dealNames : Nat) (a_p1_lenderGain : Nat) (a_p1_borrowerGain : Nat) (a_p1_either : Nat) (a_p1_byYear : Nat) (a_p1_memo : Nat) (p1_borrower : Nat → Int32) (p1_lender : Nat → Int32) (p1_year : Nat → Int32) : va_W := [(a_t, .inr (0, [.ref a_t_deal, .ref a_t_way, .ref a_t_foundNothing, .int t_size])), (a_t_deal, .inl (G.2.2.1, 30, .inl t_deal)), (a_t_foundNothing, .inl (G.2.2.1, 30, .inl t_foundNothing)), (a_t_way, .inl (G.2.2.1, 30, .inl t_way)), (a_p1, .inr (10, [.int p1_persons, .int p1_deals, .int p1_lawYears, .int p1_toldParts, .ref a_p1_personNames, .ref a_p1_born, .ref a_p1_dies, .ref a_p1_limit, .ref a_p1_dealNames, .ref a_p1_lender, .ref a_p1_borrower, .ref a_p1_year, .ref a_p1_lenderGain, .ref a_p1_borrowerGain, .ref a_p1_either, .ref a_p1_byYear, .ref a_p1_memo])), (a_p1_borrower, .inl (G.2.2.1, 30, .inl p1_borrower)), (a_p1_lender, .inl (G.2.2.1, 30, .inl p1_lender)), (a_p1_year, .inl (G.2.2.1, 30, .inl p1_year))]
set_option maxHeartbeats 8000000 in
set_option maxRecDepth 100000 in
theorem lb_X0_whatIs_0 (l : Launch) (G : jG) (a_t : Nat) (a_t_deal : Nat) (a_t_foundNothing : Nat) (a_t_way : Nat) (a_p1 : Nat) (a_p1_borrower : Nat) (a_p1_lender : Nat) (a_p1_year : Nat) (t_size : Int32) (t_deal : Nat → Int32) (t_foundNothing : Nat → Int32) (t_way : Nat → Int32) (p1_persons : Int32) (p1_deals : Int32) (p1_lawYears : Int32) (p1_toldParts : Int32) (a_p1_personNames : Nat) (a_p1_born : Nat) (a_p1_dies : Nat) (a_p1_limit : Nat) (a_p1_dealNames : Nat) (a_p1_lenderGain : Nat) (a_p1_borrowerGain : Nat) (a_p1_either : Nat) (a_p1_byYear : Nat) (a_p1_memo : Nat) (p1_borrower : Nat → Int32) (p1_lender : Nat → Int32) (p1_year : Nat → Int32) (p2 : Int32) (p3 : Int32) (X : jX) (C : jC X l G 8 rm_X0_whatIs cX0_whatIs RX0 wsX0_whatIs) (r : Int32) (hE : jE X (some .int) (some (.int r)) (wd_X0_whatIs G a_t a_t_deal a_t_foundNothing a_t_way a_p1 a_p1_borrower a_p1_lender a_p1_year t_size t_deal t_foundNothing t_way p1_persons p1_deals p1_lawYears p1_toldParts a_p1_personNames a_p1_born a_p1_dies a_p1_limit a_p1_dealNames a_p1_lenderGain a_p1_borrowerGain a_p1_either a_p1_byYear a_p1_memo p1_borrower p1_lender p1_year)) (n : Nat) (IH0 : ∀ (v4 : Int32), lpN (st_X0_whatIs t_deal t_foundNothing t_way p1_lawYears p1_borrower p1_lender p1_year p2 p3) n (.inl v4) = some r → J X 0 0 (wd_X0_whatIs G a_t a_t_deal a_t_foundNothing a_t_way a_p1 a_p1_borrower a_p1_lender a_p1_year t_size t_deal t_foundNothing t_way p1_persons p1_deals p1_lawYears p1_toldParts a_p1_personNames a_p1_born a_p1_dies a_p1_limit a_p1_dealNames a_p1_lenderGain a_p1_borrowerGain a_p1_either a_p1_byYear a_p1_memo p1_borrower p1_lender p1_year) [(0, .ref a_t), (1, .ref a_p1), (2, .int p2), (3, .int p3), (4, .int v4)] 8 []) (IH1 : ∀ (v4 : Int32) (v5 : Int32) (k0 : Int32), lpN (st_X0_whatIs t_deal t_foundNothing t_way p1_lawYears p1_borrower p1_lender p1_year p2 p3) n (.inr (.inl (v4, v5, k0))) = some r → J X 0 0 (wd_X0_whatIs G a_t a_t_deal a_t_foundNothing a_t_way a_p1 a_p1_borrower a_p1_lender a_p1_year t_size t_deal t_foundNothing t_way p1_persons p1_deals p1_lawYears p1_toldParts a_p1_personNames a_p1_born a_p1_dies a_p1_limit a_p1_dealNames a_p1_lenderGain a_p1_borrowerGain a_p1_either a_p1_byYear a_p1_memo p1_borrower p1_lender p1_year) [(0, .ref a_t), (1, .ref a_p1), (2, .int p2), (4, .int v4), (5, .int v5)] 76 [.int k0]) (v4 : Int32) (hd : lpR (st_X0_whatIs t_deal t_foundNothing t_way p1_lawYears p1_borrower p1_lender p1_year p2 p3) n (bd_X0_whatIs_0 t_deal t_foundNothing t_way p1_lawYears p1_borrower p1_lender p1_year p2 p3 v4) = some r) : J X 0 0 (wd_X0_whatIs G a_t a_t_deal a_t_foundNothing a_t_way a_p1 a_p1_borrower a_p1_lender a_p1_year t_size t_deal t_foundNothing t_way p1_persons p1_deals p1_lawYears p1_toldParts a_p1_personNames a_p1_born a_p1_dies a_p1_limit a_p1_dealNames a_p1_lenderGain a_p1_borrowerGain a_p1_either a_p1_byYear a_p1_memo p1_borrower p1_lender p1_year) [(0, .ref a_t), (1, .ref a_p1), (2, .int p2), (3, .int p3), (4, .int v4)] 8 [] := by
  unfold bd_X0_whatIs_0 at hd
  refine j_iload (pc := 8) C dX0_whatIs_8 4 rfl ?_
  refine j_if_lt (pc := 10) (tgt := 135) C dX0_whatIs_10 (by decide) (fun c1 => ?_) (fun c1 => ?_)
  · have hd := lp_pos c1 hd
    refine j_iconst (pc := 135) (v := 0) C dX0_whatIs_135 jk_I0 ?_
    obtain rfl := Option.some.inj hd
    exact j_iret (pc := 136) C hE dX0_whatIs_136 rfl rfl
  · have hd := lp_neg c1 hd
    refine j_aload_n (pc := 13) C dX0_whatIs_13 rfl 0 rfl ?_
    refine j_get (pc := 14) (q0 := 0) (ci := 0) (kf := 0) C dX0_whatIs_14 in_X0_whatIs_X0 rfl (by decide) fl_X0_whatIs_9 rfl rfl ?_
    refine j_iload (pc := 17) C dX0_whatIs_17 4 rfl ?_
    obtain ⟨h2, hd⟩ := lp_chk hd
    refine j_iald (pc := 19) (q0 := 1) C dX0_whatIs_19 rfl h2 ?_
    refine j_istore (pc := 20) (lv2 := [(0, .ref a_t), (1, .ref a_p1), (2, .int p2), (3, .int p3), (4, .int v4), (5, .int (t_deal (v4).toNatClampNeg))]) C dX0_whatIs_20 (by decide) [1, 2, 3, 4, 5, 0] rfl ?_
    refine j_aload_n (pc := 22) C dX0_whatIs_22 rfl 1 rfl ?_
    refine j_get (pc := 23) (q0 := 4) (ci := 10) (kf := 11) C dX0_whatIs_23 in_X0_whatIs_X10 rfl (by decide) fl_X0_whatIs_40 rfl rfl ?_
    refine j_iload (pc := 26) C dX0_whatIs_26 5 rfl ?_
    obtain ⟨h3, hd⟩ := lp_chk hd
    refine j_iald (pc := 28) (q0 := 7) C dX0_whatIs_28 rfl h3 ?_
    refine j_iload_n (pc := 29) C dX0_whatIs_29 rfl 3 rfl ?_
    refine j_icmp_gt (pc := 30) (tgt := 129) C dX0_whatIs_30 (by decide) (fun c4 => ?_) (fun c4 => ?_)
    · have hd := lp_pos c4 hd
      refine j_iinc (pc := 129) (lv2 := [(0, .ref a_t), (1, .ref a_p1), (2, .int p2), (3, .int p3), (4, .int (v4 + (-1))), (5, .int (t_deal (v4).toNatClampNeg))]) C dX0_whatIs_129 jk_Im1 (by decide) 4 rfl [1, 2, 3, 4, 0, 5] rfl ?_
      refine j_goto (pc := 132) (tgt := 8) C dX0_whatIs_132 (by decide) ?_
      refine j_sub (lv2 := [(0, .ref a_t), (1, .ref a_p1), (2, .int p2), (3, .int p3), (4, .int (v4 + (-1)))]) [0, 1, 2, 3, 4] rfl ?_
      exact IH0 (v4 + (-1)) hd
    · have hd := lp_neg c4 hd
      refine j_aload_n (pc := 33) C dX0_whatIs_33 rfl 0 rfl ?_
      refine j_get (pc := 34) (q0 := 0) (ci := 0) (kf := 2) C dX0_whatIs_34 in_X0_whatIs_X0 rfl (by decide) fl_X0_whatIs_18 rfl rfl ?_
      refine j_iload (pc := 37) C dX0_whatIs_37 4 rfl ?_
      obtain ⟨h5, hd⟩ := lp_chk hd
      refine j_iald (pc := 39) (q0 := 2) C dX0_whatIs_39 rfl h5 ?_
      refine j_iload_n (pc := 40) C dX0_whatIs_40 rfl 2 rfl ?_
      refine j_ishr (pc := 41) C dX0_whatIs_41 ?_
      refine j_iconst (pc := 42) (v := 1) C dX0_whatIs_42 jk_I1 ?_
      refine j_iand (pc := 43) C dX0_whatIs_43 ?_
      refine j_iconst (pc := 44) (v := 1) C dX0_whatIs_44 jk_I1 ?_
      refine j_icmp_ne (pc := 45) (tgt := 129) C dX0_whatIs_45 (by decide) (fun c6 => ?_) (fun c6 => ?_)
      · have hd := lp_neg c6 hd
        refine j_iinc (pc := 129) (lv2 := [(0, .ref a_t), (1, .ref a_p1), (2, .int p2), (3, .int p3), (4, .int (v4 + (-1))), (5, .int (t_deal (v4).toNatClampNeg))]) C dX0_whatIs_129 jk_Im1 (by decide) 4 rfl [1, 2, 3, 4, 0, 5] rfl ?_
        refine j_goto (pc := 132) (tgt := 8) C dX0_whatIs_132 (by decide) ?_
        refine j_sub (lv2 := [(0, .ref a_t), (1, .ref a_p1), (2, .int p2), (3, .int p3), (4, .int (v4 + (-1)))]) [0, 1, 2, 3, 4] rfl ?_
        exact IH0 (v4 + (-1)) hd
      · have hd := lp_pos c6 hd
        refine j_aload_n (pc := 48) C dX0_whatIs_48 rfl 1 rfl ?_
        refine j_get (pc := 49) (q0 := 4) (ci := 10) (kf := 2) C dX0_whatIs_49 in_X0_whatIs_X10 rfl (by decide) fl_X0_whatIs_71 rfl rfl ?_
        refine j_if_eq (pc := 52) (tgt := 71) C dX0_whatIs_52 (by decide) (fun c7 => ?_) (fun c7 => ?_)
        · have hd := lp_pos c7 hd
          refine j_iconst (pc := 71) (v := 1) C dX0_whatIs_71 jk_I1 ?_
          refine j_goto (pc := 72) (tgt := 76) C dX0_whatIs_72 (by decide) ?_
          refine j_sub (lv2 := [(0, .ref a_t), (1, .ref a_p1), (2, .int p2), (4, .int v4), (5, .int (t_deal (v4).toNatClampNeg))]) [0, 1, 2, 4, 5] rfl ?_
          exact IH1 v4 (t_deal (v4).toNatClampNeg) 1 hd
        · have hd := lp_neg c7 hd
          refine j_iload_n (pc := 55) C dX0_whatIs_55 rfl 3 rfl ?_
          refine j_aload_n (pc := 56) C dX0_whatIs_56 rfl 1 rfl ?_
          refine j_get (pc := 57) (q0 := 4) (ci := 10) (kf := 11) C dX0_whatIs_57 in_X0_whatIs_X10 rfl (by decide) fl_X0_whatIs_40 rfl rfl ?_
          refine j_iload (pc := 60) C dX0_whatIs_60 5 rfl ?_
          obtain ⟨h8, hd⟩ := lp_chk hd
          refine j_iald (pc := 62) (q0 := 7) C dX0_whatIs_62 rfl h8 ?_
          refine j_aload_n (pc := 63) C dX0_whatIs_63 rfl 1 rfl ?_
          refine j_get (pc := 64) (q0 := 4) (ci := 10) (kf := 2) C dX0_whatIs_64 in_X0_whatIs_X10 rfl (by decide) fl_X0_whatIs_71 rfl rfl ?_
          refine j_iadd (pc := 67) C dX0_whatIs_67 ?_
          refine j_icmp_ge (pc := 68) (tgt := 75) C dX0_whatIs_68 (by decide) (fun c9 => ?_) (fun c9 => ?_)
          · have hd := lp_pos c9 hd
            refine j_iconst (pc := 75) (v := 0) C dX0_whatIs_75 jk_I0 ?_
            refine j_sub (lv2 := [(0, .ref a_t), (1, .ref a_p1), (2, .int p2), (4, .int v4), (5, .int (t_deal (v4).toNatClampNeg))]) [0, 1, 2, 4, 5] rfl ?_
            exact IH1 v4 (t_deal (v4).toNatClampNeg) 0 hd
          · have hd := lp_neg c9 hd
            refine j_iconst (pc := 71) (v := 1) C dX0_whatIs_71 jk_I1 ?_
            refine j_goto (pc := 72) (tgt := 76) C dX0_whatIs_72 (by decide) ?_
            refine j_sub (lv2 := [(0, .ref a_t), (1, .ref a_p1), (2, .int p2), (4, .int v4), (5, .int (t_deal (v4).toNatClampNeg))]) [0, 1, 2, 4, 5] rfl ?_
            exact IH1 v4 (t_deal (v4).toNatClampNeg) 1 hd
set_option maxHeartbeats 8000000 in
set_option maxRecDepth 100000 in
theorem lb_X0_whatIs_1 (l : Launch) (G : jG) (a_t : Nat) (a_t_deal : Nat) (a_t_foundNothing : Nat) (a_t_way : Nat) (a_p1 : Nat) (a_p1_borrower : Nat) (a_p1_lender : Nat) (a_p1_year : Nat) (t_size : Int32) (t_deal : Nat → Int32) (t_foundNothing : Nat → Int32) (t_way : Nat → Int32) (p1_persons : Int32) (p1_deals : Int32) (p1_lawYears : Int32) (p1_toldParts : Int32) (a_p1_personNames : Nat) (a_p1_born : Nat) (a_p1_dies : Nat) (a_p1_limit : Nat) (a_p1_dealNames : Nat) (a_p1_lenderGain : Nat) (a_p1_borrowerGain : Nat) (a_p1_either : Nat) (a_p1_byYear : Nat) (a_p1_memo : Nat) (p1_borrower : Nat → Int32) (p1_lender : Nat → Int32) (p1_year : Nat → Int32) (p2 : Int32) (p3 : Int32) (X : jX) (C : jC X l G 8 rm_X0_whatIs cX0_whatIs RX0 wsX0_whatIs) (r : Int32) (hE : jE X (some .int) (some (.int r)) (wd_X0_whatIs G a_t a_t_deal a_t_foundNothing a_t_way a_p1 a_p1_borrower a_p1_lender a_p1_year t_size t_deal t_foundNothing t_way p1_persons p1_deals p1_lawYears p1_toldParts a_p1_personNames a_p1_born a_p1_dies a_p1_limit a_p1_dealNames a_p1_lenderGain a_p1_borrowerGain a_p1_either a_p1_byYear a_p1_memo p1_borrower p1_lender p1_year)) (n : Nat) (IH2 : ∀ (v6 : Int32) (k0 : Int32), lpN (st_X0_whatIs t_deal t_foundNothing t_way p1_lawYears p1_borrower p1_lender p1_year p2 p3) n (.inr (.inr ((v6, k0)))) = some r → J X 0 0 (wd_X0_whatIs G a_t a_t_deal a_t_foundNothing a_t_way a_p1 a_p1_borrower a_p1_lender a_p1_year t_size t_deal t_foundNothing t_way p1_persons p1_deals p1_lawYears p1_toldParts a_p1_personNames a_p1_born a_p1_dies a_p1_limit a_p1_dealNames a_p1_lenderGain a_p1_borrowerGain a_p1_either a_p1_byYear a_p1_memo p1_borrower p1_lender p1_year) [(2, .int p2), (6, .int v6)] 106 [.int k0]) (v4 : Int32) (v5 : Int32) (k0 : Int32) (hd : lpR (st_X0_whatIs t_deal t_foundNothing t_way p1_lawYears p1_borrower p1_lender p1_year p2 p3) n (bd_X0_whatIs_1 t_deal t_foundNothing t_way p1_lawYears p1_borrower p1_lender p1_year p2 p3 v4 v5 k0) = some r) : J X 0 0 (wd_X0_whatIs G a_t a_t_deal a_t_foundNothing a_t_way a_p1 a_p1_borrower a_p1_lender a_p1_year t_size t_deal t_foundNothing t_way p1_persons p1_deals p1_lawYears p1_toldParts a_p1_personNames a_p1_born a_p1_dies a_p1_limit a_p1_dealNames a_p1_lenderGain a_p1_borrowerGain a_p1_either a_p1_byYear a_p1_memo p1_borrower p1_lender p1_year) [(0, .ref a_t), (1, .ref a_p1), (2, .int p2), (4, .int v4), (5, .int v5)] 76 [.int k0] := by
  unfold bd_X0_whatIs_1 at hd
  refine j_istore (pc := 76) (lv2 := [(0, .ref a_t), (1, .ref a_p1), (2, .int p2), (4, .int v4), (5, .int v5), (6, .int k0)]) C dX0_whatIs_76 (by decide) [1, 2, 3, 4, 5, 0] rfl ?_
  refine j_aload_n (pc := 78) C dX0_whatIs_78 rfl 0 rfl ?_
  refine j_get (pc := 79) (q0 := 0) (ci := 0) (kf := 1) C dX0_whatIs_79 in_X0_whatIs_X0 rfl (by decide) fl_X0_whatIs_15 rfl rfl ?_
  refine j_iload (pc := 82) C dX0_whatIs_82 3 rfl ?_
  obtain ⟨h10, hd⟩ := lp_chk hd
  refine j_iald (pc := 84) (q0 := 3) C dX0_whatIs_84 rfl h10 ?_
  refine j_iconst (pc := 85) (v := 2) C dX0_whatIs_85 jk_I2 ?_
  refine j_icmp_ne (pc := 86) (tgt := 99) C dX0_whatIs_86 (by decide) (fun c11 => ?_) (fun c11 => ?_)
  · have hd := lp_neg c11 hd
    refine j_aload_n (pc := 99) C dX0_whatIs_99 rfl 1 rfl ?_
    refine j_get (pc := 100) (q0 := 4) (ci := 10) (kf := 9) C dX0_whatIs_100 in_X0_whatIs_X10 rfl (by decide) fl_X0_whatIs_35 rfl rfl ?_
    refine j_iload (pc := 103) C dX0_whatIs_103 4 rfl ?_
    obtain ⟨h12, hd⟩ := lp_chk hd
    refine j_iald (pc := 105) (q0 := 6) C dX0_whatIs_105 rfl h12 ?_
    refine j_sub (lv2 := [(2, .int p2), (6, .int k0)]) [2, 5] rfl ?_
    exact IH2 k0 (p1_lender (v5).toNatClampNeg) hd
  · have hd := lp_pos c11 hd
    refine j_aload_n (pc := 89) C dX0_whatIs_89 rfl 1 rfl ?_
    refine j_get (pc := 90) (q0 := 4) (ci := 10) (kf := 10) C dX0_whatIs_90 in_X0_whatIs_X10 rfl (by decide) fl_X0_whatIs_46 rfl rfl ?_
    refine j_iload (pc := 93) C dX0_whatIs_93 4 rfl ?_
    obtain ⟨h13, hd⟩ := lp_chk hd
    refine j_iald (pc := 95) (q0 := 5) C dX0_whatIs_95 rfl h13 ?_
    refine j_goto (pc := 96) (tgt := 106) C dX0_whatIs_96 (by decide) ?_
    refine j_sub (lv2 := [(2, .int p2), (6, .int k0)]) [2, 5] rfl ?_
    exact IH2 k0 (p1_borrower (v5).toNatClampNeg) hd
set_option maxHeartbeats 8000000 in
set_option maxRecDepth 100000 in
theorem lb_X0_whatIs_2 (l : Launch) (G : jG) (a_t : Nat) (a_t_deal : Nat) (a_t_foundNothing : Nat) (a_t_way : Nat) (a_p1 : Nat) (a_p1_borrower : Nat) (a_p1_lender : Nat) (a_p1_year : Nat) (t_size : Int32) (t_deal : Nat → Int32) (t_foundNothing : Nat → Int32) (t_way : Nat → Int32) (p1_persons : Int32) (p1_deals : Int32) (p1_lawYears : Int32) (p1_toldParts : Int32) (a_p1_personNames : Nat) (a_p1_born : Nat) (a_p1_dies : Nat) (a_p1_limit : Nat) (a_p1_dealNames : Nat) (a_p1_lenderGain : Nat) (a_p1_borrowerGain : Nat) (a_p1_either : Nat) (a_p1_byYear : Nat) (a_p1_memo : Nat) (p1_borrower : Nat → Int32) (p1_lender : Nat → Int32) (p1_year : Nat → Int32) (p2 : Int32) (p3 : Int32) (X : jX) (C : jC X l G 8 rm_X0_whatIs cX0_whatIs RX0 wsX0_whatIs) (r : Int32) (hE : jE X (some .int) (some (.int r)) (wd_X0_whatIs G a_t a_t_deal a_t_foundNothing a_t_way a_p1 a_p1_borrower a_p1_lender a_p1_year t_size t_deal t_foundNothing t_way p1_persons p1_deals p1_lawYears p1_toldParts a_p1_personNames a_p1_born a_p1_dies a_p1_limit a_p1_dealNames a_p1_lenderGain a_p1_borrowerGain a_p1_either a_p1_byYear a_p1_memo p1_borrower p1_lender p1_year)) (n : Nat)  (v6 : Int32) (k0 : Int32) (hd : lpR (st_X0_whatIs t_deal t_foundNothing t_way p1_lawYears p1_borrower p1_lender p1_year p2 p3) n (bd_X0_whatIs_2 t_deal t_foundNothing t_way p1_lawYears p1_borrower p1_lender p1_year p2 p3 v6 k0) = some r) : J X 0 0 (wd_X0_whatIs G a_t a_t_deal a_t_foundNothing a_t_way a_p1 a_p1_borrower a_p1_lender a_p1_year t_size t_deal t_foundNothing t_way p1_persons p1_deals p1_lawYears p1_toldParts a_p1_personNames a_p1_born a_p1_dies a_p1_limit a_p1_dealNames a_p1_lenderGain a_p1_borrowerGain a_p1_either a_p1_byYear a_p1_memo p1_borrower p1_lender p1_year) [(2, .int p2), (6, .int v6)] 106 [.int k0] := by
  unfold bd_X0_whatIs_2 at hd
  refine j_istore (pc := 106) (lv2 := [(2, .int p2), (6, .int v6), (7, .int k0)]) C dX0_whatIs_106 (by decide) [1, 2, 0] rfl ?_
  refine j_iload (pc := 108) C dX0_whatIs_108 1 rfl ?_
  refine j_if_ne (pc := 110) (tgt := 117) C dX0_whatIs_110 (by decide) (fun c14 => ?_) (fun c14 => ?_)
  · have hd := lp_neg c14 hd
    refine j_iload (pc := 117) C dX0_whatIs_117 2 rfl ?_
    refine j_iload_n (pc := 119) C dX0_whatIs_119 rfl 0 rfl ?_
    refine j_icmp_ne (pc := 120) (tgt := 127) C dX0_whatIs_120 (by decide) (fun c15 => ?_) (fun c15 => ?_)
    · have hd := lp_neg c15 hd
      refine j_iconst (pc := 127) (v := 2) C dX0_whatIs_127 jk_I2 ?_
      obtain rfl := Option.some.inj hd
      exact j_iret (pc := 128) C hE dX0_whatIs_128 rfl rfl
    · have hd := lp_pos c15 hd
      refine j_iconst (pc := 123) (v := 1) C dX0_whatIs_123 jk_I1 ?_
      refine j_goto (pc := 124) (tgt := 128) C dX0_whatIs_124 (by decide) ?_
      obtain rfl := Option.some.inj hd
      exact j_iret (pc := 128) C hE dX0_whatIs_128 rfl rfl
  · have hd := lp_pos c14 hd
    refine j_iconst (pc := 113) (v := 0) C dX0_whatIs_113 jk_I0 ?_
    refine j_goto (pc := 114) (tgt := 128) C dX0_whatIs_114 (by decide) ?_
    obtain rfl := Option.some.inj hd
    exact j_iret (pc := 128) C hE dX0_whatIs_128 rfl rfl
set_option maxHeartbeats 8000000 in
set_option maxRecDepth 100000 in
theorem la_X0_whatIs (l : Launch) (G : jG) (a_t : Nat) (a_t_deal : Nat) (a_t_foundNothing : Nat) (a_t_way : Nat) (a_p1 : Nat) (a_p1_borrower : Nat) (a_p1_lender : Nat) (a_p1_year : Nat) (t_size : Int32) (t_deal : Nat → Int32) (t_foundNothing : Nat → Int32) (t_way : Nat → Int32) (p1_persons : Int32) (p1_deals : Int32) (p1_lawYears : Int32) (p1_toldParts : Int32) (a_p1_personNames : Nat) (a_p1_born : Nat) (a_p1_dies : Nat) (a_p1_limit : Nat) (a_p1_dealNames : Nat) (a_p1_lenderGain : Nat) (a_p1_borrowerGain : Nat) (a_p1_either : Nat) (a_p1_byYear : Nat) (a_p1_memo : Nat) (p1_borrower : Nat → Int32) (p1_lender : Nat → Int32) (p1_year : Nat → Int32) (p2 : Int32) (p3 : Int32) (X : jX) (C : jC X l G 8 rm_X0_whatIs cX0_whatIs RX0 wsX0_whatIs) (r : Int32) (hE : jE X (some .int) (some (.int r)) (wd_X0_whatIs G a_t a_t_deal a_t_foundNothing a_t_way a_p1 a_p1_borrower a_p1_lender a_p1_year t_size t_deal t_foundNothing t_way p1_persons p1_deals p1_lawYears p1_toldParts a_p1_personNames a_p1_born a_p1_dies a_p1_limit a_p1_dealNames a_p1_lenderGain a_p1_borrowerGain a_p1_either a_p1_byYear a_p1_memo p1_borrower p1_lender p1_year)) (n : Nat) : (∀ (v4 : Int32), lpN (st_X0_whatIs t_deal t_foundNothing t_way p1_lawYears p1_borrower p1_lender p1_year p2 p3) n (.inl v4) = some r → J X 0 0 (wd_X0_whatIs G a_t a_t_deal a_t_foundNothing a_t_way a_p1 a_p1_borrower a_p1_lender a_p1_year t_size t_deal t_foundNothing t_way p1_persons p1_deals p1_lawYears p1_toldParts a_p1_personNames a_p1_born a_p1_dies a_p1_limit a_p1_dealNames a_p1_lenderGain a_p1_borrowerGain a_p1_either a_p1_byYear a_p1_memo p1_borrower p1_lender p1_year) [(0, .ref a_t), (1, .ref a_p1), (2, .int p2), (3, .int p3), (4, .int v4)] 8 []) ∧ (∀ (v4 : Int32) (v5 : Int32) (k0 : Int32), lpN (st_X0_whatIs t_deal t_foundNothing t_way p1_lawYears p1_borrower p1_lender p1_year p2 p3) n (.inr (.inl (v4, v5, k0))) = some r → J X 0 0 (wd_X0_whatIs G a_t a_t_deal a_t_foundNothing a_t_way a_p1 a_p1_borrower a_p1_lender a_p1_year t_size t_deal t_foundNothing t_way p1_persons p1_deals p1_lawYears p1_toldParts a_p1_personNames a_p1_born a_p1_dies a_p1_limit a_p1_dealNames a_p1_lenderGain a_p1_borrowerGain a_p1_either a_p1_byYear a_p1_memo p1_borrower p1_lender p1_year) [(0, .ref a_t), (1, .ref a_p1), (2, .int p2), (4, .int v4), (5, .int v5)] 76 [.int k0]) ∧ (∀ (v6 : Int32) (k0 : Int32), lpN (st_X0_whatIs t_deal t_foundNothing t_way p1_lawYears p1_borrower p1_lender p1_year p2 p3) n (.inr (.inr ((v6, k0)))) = some r → J X 0 0 (wd_X0_whatIs G a_t a_t_deal a_t_foundNothing a_t_way a_p1 a_p1_borrower a_p1_lender a_p1_year t_size t_deal t_foundNothing t_way p1_persons p1_deals p1_lawYears p1_toldParts a_p1_personNames a_p1_born a_p1_dies a_p1_limit a_p1_dealNames a_p1_lenderGain a_p1_borrowerGain a_p1_either a_p1_byYear a_p1_memo p1_borrower p1_lender p1_year) [(2, .int p2), (6, .int v6)] 106 [.int k0]) := by
  induction n with
  | zero => exact ⟨(fun v4 h => by cases h), (fun v4 v5 k0 h => by cases h), (fun v6 k0 h => by cases h)⟩
  | succ n ih => exact ⟨(fun v4 h => lb_X0_whatIs_0 l G a_t a_t_deal a_t_foundNothing a_t_way a_p1 a_p1_borrower a_p1_lender a_p1_year t_size t_deal t_foundNothing t_way p1_persons p1_deals p1_lawYears p1_toldParts a_p1_personNames a_p1_born a_p1_dies a_p1_limit a_p1_dealNames a_p1_lenderGain a_p1_borrowerGain a_p1_either a_p1_byYear a_p1_memo p1_borrower p1_lender p1_year p2 p3 X C r hE n (ih.1) (ih.2.1) v4 (by rw [lpN_succ] at h; exact h)), (fun v4 v5 k0 h => lb_X0_whatIs_1 l G a_t a_t_deal a_t_foundNothing a_t_way a_p1 a_p1_borrower a_p1_lender a_p1_year t_size t_deal t_foundNothing t_way p1_persons p1_deals p1_lawYears p1_toldParts a_p1_personNames a_p1_born a_p1_dies a_p1_limit a_p1_dealNames a_p1_lenderGain a_p1_borrowerGain a_p1_either a_p1_byYear a_p1_memo p1_borrower p1_lender p1_year p2 p3 X C r hE n (ih.2.2) v4 v5 k0 (by rw [lpN_succ] at h; exact h)), (fun v6 k0 h => lb_X0_whatIs_2 l G a_t a_t_deal a_t_foundNothing a_t_way a_p1 a_p1_borrower a_p1_lender a_p1_year t_size t_deal t_foundNothing t_way p1_persons p1_deals p1_lawYears p1_toldParts a_p1_personNames a_p1_born a_p1_dies a_p1_limit a_p1_dealNames a_p1_lenderGain a_p1_borrowerGain a_p1_either a_p1_byYear a_p1_memo p1_borrower p1_lender p1_year p2 p3 X C r hE n  v6 k0 (by rw [lpN_succ] at h; exact h))⟩
set_option maxHeartbeats 8000000 in
set_option maxRecDepth 100000 in
theorem ct_X0_whatIs (l : Launch) (G : jG) (a_t : Nat) (a_t_deal : Nat) (a_t_foundNothing : Nat) (a_t_way : Nat) (a_p1 : Nat) (a_p1_borrower : Nat) (a_p1_lender : Nat) (a_p1_year : Nat) (t_size : Int32) (t_deal : Nat → Int32) (t_foundNothing : Nat → Int32) (t_way : Nat → Int32) (p1_persons : Int32) (p1_deals : Int32) (p1_lawYears : Int32) (p1_toldParts : Int32) (a_p1_personNames : Nat) (a_p1_born : Nat) (a_p1_dies : Nat) (a_p1_limit : Nat) (a_p1_dealNames : Nat) (a_p1_lenderGain : Nat) (a_p1_borrowerGain : Nat) (a_p1_either : Nat) (a_p1_byYear : Nat) (a_p1_memo : Nat) (p1_borrower : Nat → Int32) (p1_lender : Nat → Int32) (p1_year : Nat → Int32) (p2 : Int32) (p3 : Int32) (r : Int32) (hd : dn_X0_whatIs t_size t_deal t_foundNothing t_way p1_lawYears p1_borrower p1_lender p1_year p2 p3 = some r) : jM l G yX0_whatIs wsX0_whatIs rm_X0_whatIs [.ref a_t, .ref a_p1, .int p2, .int p3] (wd_X0_whatIs G a_t a_t_deal a_t_foundNothing a_t_way a_p1 a_p1_borrower a_p1_lender a_p1_year t_size t_deal t_foundNothing t_way p1_persons p1_deals p1_lawYears p1_toldParts a_p1_personNames a_p1_born a_p1_dies a_p1_limit a_p1_dealNames a_p1_lenderGain a_p1_borrowerGain a_p1_either a_p1_byYear a_p1_memo p1_borrower p1_lender p1_year) (some (.int r)) (wd_X0_whatIs G a_t a_t_deal a_t_foundNothing a_t_way a_p1 a_p1_borrower a_p1_lender a_p1_year t_size t_deal t_foundNothing t_way p1_persons p1_deals p1_lawYears p1_toldParts a_p1_personNames a_p1_born a_p1_dies a_p1_limit a_p1_dealNames a_p1_lenderGain a_p1_borrowerGain a_p1_either a_p1_byYear a_p1_memo p1_borrower p1_lender p1_year) := by
  refine jM_of (own := RX0) (by decide) rfl rfl rfl (Nat.le_of_ble_eq_true rfl) (lv0 := [(0, .ref a_t), (1, .ref a_p1), (2, .int p2), (3, .int p3)]) rfl (fun X C hE => ?_)
  unfold dn_X0_whatIs at hd
  refine j_aload_n (pc := 0) C dX0_whatIs_0 rfl 0 rfl ?_
  refine j_get (pc := 1) (q0 := 0) (ci := 0) (kf := 3) C dX0_whatIs_1 in_X0_whatIs_X0 rfl (by decide) fl_X0_whatIs_21 rfl rfl ?_
  refine j_iconst (pc := 4) (v := 1) C dX0_whatIs_4 jk_I1 ?_
  refine j_isub (pc := 5) C dX0_whatIs_5 ?_
  refine j_istore (pc := 6) (lv2 := [(0, .ref a_t), (1, .ref a_p1), (2, .int p2), (3, .int p3), (4, .int (t_size - 1))]) C dX0_whatIs_6 (by decide) [1, 2, 3, 4, 0] rfl ?_
  refine j_sub (lv2 := [(0, .ref a_t), (1, .ref a_p1), (2, .int p2), (3, .int p3), (4, .int (t_size - 1))]) [0, 1, 2, 3, 4] rfl ?_
  obtain ⟨n, hn⟩ := lpC_ex hd
  exact (la_X0_whatIs l G a_t a_t_deal a_t_foundNothing a_t_way a_p1 a_p1_borrower a_p1_lender a_p1_year t_size t_deal t_foundNothing t_way p1_persons p1_deals p1_lawYears p1_toldParts a_p1_personNames a_p1_born a_p1_dies a_p1_limit a_p1_dealNames a_p1_lenderGain a_p1_borrowerGain a_p1_either a_p1_byYear a_p1_memo p1_borrower p1_lender p1_year p2 p3 X C r hE n).1 (t_size - 1) hn
/-! ##### LendTown$Book.didAll(LLendTown$Town;II)Z -/
abbrev rm_X0_didAll : Room := { frames := 1, cells := 0, slots := 0, locals := 22 }
theorem jy_X0_didAll : jY yX0_didAll wsX0_didAll rm_X0_didAll cX0_didAll 6 (some .boolean) 3 := ⟨⟨_, rfl⟩, ⟨rfl, rfl⟩, by decide, by decide, by decide +kernel⟩
theorem in_X0_didAll_X0 : ∀ w ∈ u_ws RX0 TX0 4, w ∈ wsX0_didAll := fun w h => List.mem_cons_of_mem _ (List.mem_append_left _ (List.mem_append_right _ (h)))
theorem in_X0_didAll_X10 : ∀ w ∈ u_ws RX10 TX10 17, w ∈ wsX0_didAll := fun w h => List.mem_cons_of_mem _ (List.mem_append_right _ (h))
theorem fl_X0_didAll_21 : Cond.fieldLink RX0 21 "LendTown$Book" "size" "I" ∈ wsX0_didAll := List.mem_of_getElem? (i := 1) rfl
theorem fl_X0_didAll_68 : Cond.fieldLink RX0 68 "LendTown$Town" "limit" "[I" ∈ wsX0_didAll := List.mem_of_getElem? (i := 4) rfl
theorem fl_X0_didAll_40 : Cond.fieldLink RX0 40 "LendTown$Town" "year" "[I" ∈ wsX0_didAll := List.mem_of_getElem? (i := 2) rfl
theorem fl_X0_didAll_9 : Cond.fieldLink RX0 9 "LendTown$Book" "deal" "[I" ∈ wsX0_didAll := List.mem_of_getElem? (i := 3) rfl
def wd_X0_didAll (G : jG) (a_t : Nat) (a_t_deal : Nat) (a_p1 : Nat) (a_p1_borrower : Nat) (a_p1_lender : Nat) (a_p1_limit : Nat) (a_p1_year : Nat) (a_t_way : Nat) (a_t_foundNothing : Nat) (t_size : Int32) (t_deal : Nat → Int32) (p1_persons : Int32) (p1_deals : Int32) (p1_lawYears : Int32) (p1_toldParts : Int32) (a_p1_personNames : Nat) (a_p1_born : Nat) (a_p1_dies : Nat) (a_p1_dealNames : Nat) (a_p1_lenderGain : Nat) (a_p1_borrowerGain : Nat) (a_p1_either : Nat) (a_p1_byYear : Nat) (a_p1_memo : Nat) (p1_borrower : Nat → Int32) (p1_lender : Nat → Int32) (p1_limit : Nat → Int32) (p1_year : Nat → Int32) : va_W := [(a_t, .inr (0, [.ref a_t_deal, .ref a_t_way, .ref a_t_foundNothing, .int t_size])), (a_t_deal, .inl (G.2.2.1, 30, .inl t_deal)), (a_p1, .inr (10, [.int p1_persons, .int p1_deals, .int p1_lawYears, .int p1_toldParts, .ref a_p1_personNames, .ref a_p1_born, .ref a_p1_dies, .ref a_p1_limit, .ref a_p1_dealNames, .ref a_p1_lender, .ref a_p1_borrower, .ref a_p1_year, .ref a_p1_lenderGain, .ref a_p1_borrowerGain, .ref a_p1_either, .ref a_p1_byYear, .ref a_p1_memo])), (a_p1_borrower, .inl (G.2.2.1, 30, .inl p1_borrower)), (a_p1_lender, .inl (G.2.2.1, 30, .inl p1_lender)), (a_p1_limit, .inl (G.2.2.1, 10, .inl p1_limit)), (a_p1_year, .inl (G.2.2.1, 30, .inl p1_year))]
set_option maxHeartbeats 8000000 in
set_option maxRecDepth 100000 in
theorem lb_X0_didAll_0 (l : Launch) (G : jG) (a_t : Nat) (a_t_deal : Nat) (a_p1 : Nat) (a_p1_borrower : Nat) (a_p1_lender : Nat) (a_p1_limit : Nat) (a_p1_year : Nat) (a_t_way : Nat) (a_t_foundNothing : Nat) (t_size : Int32) (t_deal : Nat → Int32) (p1_persons : Int32) (p1_deals : Int32) (p1_lawYears : Int32) (p1_toldParts : Int32) (a_p1_personNames : Nat) (a_p1_born : Nat) (a_p1_dies : Nat) (a_p1_dealNames : Nat) (a_p1_lenderGain : Nat) (a_p1_borrowerGain : Nat) (a_p1_either : Nat) (a_p1_byYear : Nat) (a_p1_memo : Nat) (p1_borrower : Nat → Int32) (p1_lender : Nat → Int32) (p1_limit : Nat → Int32) (p1_year : Nat → Int32) (p2 : Int32) (p3 : Int32) (X : jX) (C : jC X l G 6 rm_X0_didAll cX0_didAll RX0 wsX0_didAll) (r : Bool) (hE : jE X (some .boolean) (some (.int (b2i r))) (wd_X0_didAll G a_t a_t_deal a_p1 a_p1_borrower a_p1_lender a_p1_limit a_p1_year a_t_way a_t_foundNothing t_size t_deal p1_persons p1_deals p1_lawYears p1_toldParts a_p1_personNames a_p1_born a_p1_dies a_p1_dealNames a_p1_lenderGain a_p1_borrowerGain a_p1_either a_p1_byYear a_p1_memo p1_borrower p1_lender p1_limit p1_year)) (n : Nat) (IH0 : ∀ (v4 : Int32) (v5 : Int32), lpN (st_X0_didAll t_size t_deal p1_borrower p1_lender p1_limit p1_year p2 p3) n ((v4, v5)) = some r → J X 0 0 (wd_X0_didAll G a_t a_t_deal a_p1 a_p1_borrower a_p1_lender a_p1_limit a_p1_year a_t_way a_t_foundNothing t_size t_deal p1_persons p1_deals p1_lawYears p1_toldParts a_p1_personNames a_p1_born a_p1_dies a_p1_dealNames a_p1_lenderGain a_p1_borrowerGain a_p1_either a_p1_byYear a_p1_memo p1_borrower p1_lender p1_limit p1_year) [(0, .ref a_t), (1, .ref a_p1), (2, .int p2), (3, .int p3), (4, .int v4), (5, .int v5)] 6 []) (v4 : Int32) (v5 : Int32) (hd : lpR (st_X0_didAll t_size t_deal p1_borrower p1_lender p1_limit p1_year p2 p3) n (bd_X0_didAll_0 t_size t_deal p1_borrower p1_lender p1_limit p1_year p2 p3 v4 v5) = some r) : J X 0 0 (wd_X0_didAll G a_t a_t_deal a_p1 a_p1_borrower a_p1_lender a_p1_limit a_p1_year a_t_way a_t_foundNothing t_size t_deal p1_persons p1_deals p1_lawYears p1_toldParts a_p1_personNames a_p1_born a_p1_dies a_p1_dealNames a_p1_lenderGain a_p1_borrowerGain a_p1_either a_p1_byYear a_p1_memo p1_borrower p1_lender p1_limit p1_year) [(0, .ref a_t), (1, .ref a_p1), (2, .int p2), (3, .int p3), (4, .int v4), (5, .int v5)] 6 [] := by
  unfold bd_X0_didAll_0 at hd
  refine j_iload (pc := 6) C dX0_didAll_6 5 rfl ?_
  refine j_aload_n (pc := 8) C dX0_didAll_8 rfl 0 rfl ?_
  refine j_get (pc := 9) (q0 := 0) (ci := 0) (kf := 3) C dX0_didAll_9 in_X0_didAll_X0 rfl (by decide) fl_X0_didAll_21 rfl rfl ?_
  refine j_icmp_ge (pc := 12) (tgt := 55) C dX0_didAll_12 (by decide) (fun c1 => ?_) (fun c1 => ?_)
  · have hd := lp_pos c1 hd
    refine j_iload (pc := 55) C dX0_didAll_55 4 rfl ?_
    refine j_aload_n (pc := 57) C dX0_didAll_57 rfl 1 rfl ?_
    refine j_get (pc := 58) (q0 := 2) (ci := 10) (kf := 7) C dX0_didAll_58 in_X0_didAll_X10 rfl (by decide) fl_X0_didAll_68 rfl rfl ?_
    refine j_iload_n (pc := 61) C dX0_didAll_61 rfl 2 rfl ?_
    obtain ⟨h2, hd⟩ := lp_chk hd
    refine j_iald (pc := 62) (q0 := 5) C dX0_didAll_62 rfl h2 ?_
    refine j_icmp_lt (pc := 63) (tgt := 70) C dX0_didAll_63 (by decide) (fun c3 => ?_) (fun c3 => ?_)
    · have hd := lp_pos c3 hd
      refine j_iconst (pc := 70) (v := 0) C dX0_didAll_70 jk_I0 ?_
      obtain rfl := Option.some.inj hd
      exact j_zret (pc := 71) C hE dX0_didAll_71 rfl rfl rfl
    · have hd := lp_neg c3 hd
      refine j_iconst (pc := 66) (v := 1) C dX0_didAll_66 jk_I1 ?_
      refine j_goto (pc := 67) (tgt := 71) C dX0_didAll_67 (by decide) ?_
      obtain rfl := Option.some.inj hd
      exact j_zret (pc := 71) C hE dX0_didAll_71 rfl rfl rfl
  · have hd := lp_neg c1 hd
    refine j_aload_n (pc := 15) C dX0_didAll_15 rfl 1 rfl ?_
    refine j_get (pc := 16) (q0 := 2) (ci := 10) (kf := 11) C dX0_didAll_16 in_X0_didAll_X10 rfl (by decide) fl_X0_didAll_40 rfl rfl ?_
    refine j_aload_n (pc := 19) C dX0_didAll_19 rfl 0 rfl ?_
    refine j_get (pc := 20) (q0 := 0) (ci := 0) (kf := 0) C dX0_didAll_20 in_X0_didAll_X0 rfl (by decide) fl_X0_didAll_9 rfl rfl ?_
    refine j_iload (pc := 23) C dX0_didAll_23 5 rfl ?_
    obtain ⟨h4, hd⟩ := lp_chk hd
    refine j_iald (pc := 25) (q0 := 1) C dX0_didAll_25 rfl h4 ?_
    obtain ⟨h5, hd⟩ := lp_chk hd
    refine j_iald (pc := 26) (q0 := 6) C dX0_didAll_26 rfl h5 ?_
    refine j_iload_n (pc := 27) C dX0_didAll_27 rfl 3 rfl ?_
    refine j_icmp_ne (pc := 28) (tgt := 49) C dX0_didAll_28 (by decide) (fun c6 => ?_) (fun c6 => ?_)
    · have hd := lp_neg c6 hd
      refine j_iinc (pc := 49) (lv2 := [(0, .ref a_t), (1, .ref a_p1), (2, .int p2), (3, .int p3), (4, .int v4), (5, .int (v5 + 1))]) C dX0_didAll_49 jk_I1 (by decide) 5 rfl [1, 2, 3, 4, 5, 0] rfl ?_
      refine j_goto (pc := 52) (tgt := 6) C dX0_didAll_52 (by decide) ?_
      refine j_sub (lv2 := [(0, .ref a_t), (1, .ref a_p1), (2, .int p2), (3, .int p3), (4, .int v4), (5, .int (v5 + 1))]) [0, 1, 2, 3, 4, 5] rfl ?_
      exact IH0 v4 (v5 + 1) hd
    · have hd := lp_pos c6 hd
      refine j_aload_n (pc := 31) C dX0_didAll_31 rfl 1 rfl ?_
      refine j_aload_n (pc := 32) C dX0_didAll_32 rfl 0 rfl ?_
      refine j_get (pc := 33) (q0 := 0) (ci := 0) (kf := 0) C dX0_didAll_33 in_X0_didAll_X0 rfl (by decide) fl_X0_didAll_9 rfl rfl ?_
      refine j_iload (pc := 36) C dX0_didAll_36 5 rfl ?_
      obtain ⟨h7, hd⟩ := lp_chk hd
      refine j_iald (pc := 38) (q0 := 1) C dX0_didAll_38 rfl h7 ?_
      refine j_iload_n (pc := 39) C dX0_didAll_39 rfl 2 rfl ?_
      obtain ⟨q8, eq8, hd⟩ := lp_bind hd
      refine j_callV (pc := 40) (q0 := 2) (ci := 10) (As := [.int (t_deal (v5).toNatClampNeg), .int p2]) (rest := []) (st2 := [.int (b2i q8)]) (ws2 := wd_X0_didAll G a_t a_t_deal a_p1 a_p1_borrower a_p1_lender a_p1_limit a_p1_year a_t_way a_t_foundNothing t_size t_deal p1_persons p1_deals p1_lawYears p1_toldParts a_p1_personNames a_p1_born a_p1_dies a_p1_dealNames a_p1_lenderGain a_p1_borrowerGain a_p1_either a_p1_byYear a_p1_memo p1_borrower p1_lender p1_limit p1_year) C (ct_X10_isIn l G a_p1 a_p1_borrower a_p1_lender p1_persons p1_deals p1_lawYears p1_toldParts a_p1_personNames a_p1_born a_p1_dies a_p1_limit a_p1_dealNames a_p1_year a_p1_lenderGain a_p1_borrowerGain a_p1_either a_p1_byYear a_p1_memo p1_borrower p1_lender (t_deal (v5).toNatClampNeg) p2 q8 eq8) jy_X10_isIn dX0_didAll_40 gX0_didAll_X10_isIn rfl rfl (by decide) ⟨Nat.zero_le _, Nat.zero_le _⟩ [2, 3, 4] rfl rfl (jpt_eq rfl rfl rfl) rfl rfl rfl (Nat.le_of_ble_eq_true rfl) rfl ?_
      refine j_ifb_eq (pc := 43) (tgt := 49) C dX0_didAll_43 (by decide) (fun c9 => ?_) (fun c9 => ?_)
      · have hd := lp_neg c9 hd
        refine j_iinc (pc := 49) (lv2 := [(0, .ref a_t), (1, .ref a_p1), (2, .int p2), (3, .int p3), (4, .int v4), (5, .int (v5 + 1))]) C dX0_didAll_49 jk_I1 (by decide) 5 rfl [1, 2, 3, 4, 5, 0] rfl ?_
        refine j_goto (pc := 52) (tgt := 6) C dX0_didAll_52 (by decide) ?_
        refine j_sub (lv2 := [(0, .ref a_t), (1, .ref a_p1), (2, .int p2), (3, .int p3), (4, .int v4), (5, .int (v5 + 1))]) [0, 1, 2, 3, 4, 5] rfl ?_
        exact IH0 v4 (v5 + 1) hd
      · have hd := lp_pos c9 hd
        refine j_iinc (pc := 46) (lv2 := [(0, .ref a_t), (1, .ref a_p1), (2, .int p2), (3, .int p3), (4, .int (v4 + 1)), (5, .int v5)]) C dX0_didAll_46 jk_I1 (by decide) 4 rfl [1, 2, 3, 4, 0, 5] rfl ?_
        refine j_iinc (pc := 49) (lv2 := [(0, .ref a_t), (1, .ref a_p1), (2, .int p2), (3, .int p3), (4, .int (v4 + 1)), (5, .int (v5 + 1))]) C dX0_didAll_49 jk_I1 (by decide) 5 rfl [1, 2, 3, 4, 5, 0] rfl ?_
        refine j_goto (pc := 52) (tgt := 6) C dX0_didAll_52 (by decide) ?_
        refine j_sub (lv2 := [(0, .ref a_t), (1, .ref a_p1), (2, .int p2), (3, .int p3), (4, .int (v4 + 1)), (5, .int (v5 + 1))]) [0, 1, 2, 3, 4, 5] rfl ?_
        exact IH0 (v4 + 1) (v5 + 1) hd
set_option maxHeartbeats 8000000 in
set_option maxRecDepth 100000 in
theorem la_X0_didAll (l : Launch) (G : jG) (a_t : Nat) (a_t_deal : Nat) (a_p1 : Nat) (a_p1_borrower : Nat) (a_p1_lender : Nat) (a_p1_limit : Nat) (a_p1_year : Nat) (a_t_way : Nat) (a_t_foundNothing : Nat) (t_size : Int32) (t_deal : Nat → Int32) (p1_persons : Int32) (p1_deals : Int32) (p1_lawYears : Int32) (p1_toldParts : Int32) (a_p1_personNames : Nat) (a_p1_born : Nat) (a_p1_dies : Nat) (a_p1_dealNames : Nat) (a_p1_lenderGain : Nat) (a_p1_borrowerGain : Nat) (a_p1_either : Nat) (a_p1_byYear : Nat) (a_p1_memo : Nat) (p1_borrower : Nat → Int32) (p1_lender : Nat → Int32) (p1_limit : Nat → Int32) (p1_year : Nat → Int32) (p2 : Int32) (p3 : Int32) (X : jX) (C : jC X l G 6 rm_X0_didAll cX0_didAll RX0 wsX0_didAll) (r : Bool) (hE : jE X (some .boolean) (some (.int (b2i r))) (wd_X0_didAll G a_t a_t_deal a_p1 a_p1_borrower a_p1_lender a_p1_limit a_p1_year a_t_way a_t_foundNothing t_size t_deal p1_persons p1_deals p1_lawYears p1_toldParts a_p1_personNames a_p1_born a_p1_dies a_p1_dealNames a_p1_lenderGain a_p1_borrowerGain a_p1_either a_p1_byYear a_p1_memo p1_borrower p1_lender p1_limit p1_year)) (n : Nat) : (∀ (v4 : Int32) (v5 : Int32), lpN (st_X0_didAll t_size t_deal p1_borrower p1_lender p1_limit p1_year p2 p3) n ((v4, v5)) = some r → J X 0 0 (wd_X0_didAll G a_t a_t_deal a_p1 a_p1_borrower a_p1_lender a_p1_limit a_p1_year a_t_way a_t_foundNothing t_size t_deal p1_persons p1_deals p1_lawYears p1_toldParts a_p1_personNames a_p1_born a_p1_dies a_p1_dealNames a_p1_lenderGain a_p1_borrowerGain a_p1_either a_p1_byYear a_p1_memo p1_borrower p1_lender p1_limit p1_year) [(0, .ref a_t), (1, .ref a_p1), (2, .int p2), (3, .int p3), (4, .int v4), (5, .int v5)] 6 []) := by
  induction n with
  | zero => exact (fun v4 v5 h => by cases h)
  | succ n ih => exact (fun v4 v5 h => lb_X0_didAll_0 l G a_t a_t_deal a_p1 a_p1_borrower a_p1_lender a_p1_limit a_p1_year a_t_way a_t_foundNothing t_size t_deal p1_persons p1_deals p1_lawYears p1_toldParts a_p1_personNames a_p1_born a_p1_dies a_p1_dealNames a_p1_lenderGain a_p1_borrowerGain a_p1_either a_p1_byYear a_p1_memo p1_borrower p1_lender p1_limit p1_year p2 p3 X C r hE n (ih) v4 v5 (by rw [lpN_succ] at h; exact h))
set_option maxHeartbeats 8000000 in
set_option maxRecDepth 100000 in
theorem ct_X0_didAll (l : Launch) (G : jG) (a_t : Nat) (a_t_deal : Nat) (a_p1 : Nat) (a_p1_borrower : Nat) (a_p1_lender : Nat) (a_p1_limit : Nat) (a_p1_year : Nat) (a_t_way : Nat) (a_t_foundNothing : Nat) (t_size : Int32) (t_deal : Nat → Int32) (p1_persons : Int32) (p1_deals : Int32) (p1_lawYears : Int32) (p1_toldParts : Int32) (a_p1_personNames : Nat) (a_p1_born : Nat) (a_p1_dies : Nat) (a_p1_dealNames : Nat) (a_p1_lenderGain : Nat) (a_p1_borrowerGain : Nat) (a_p1_either : Nat) (a_p1_byYear : Nat) (a_p1_memo : Nat) (p1_borrower : Nat → Int32) (p1_lender : Nat → Int32) (p1_limit : Nat → Int32) (p1_year : Nat → Int32) (p2 : Int32) (p3 : Int32) (r : Bool) (hd : dn_X0_didAll t_size t_deal p1_borrower p1_lender p1_limit p1_year p2 p3 = some r) : jM l G yX0_didAll wsX0_didAll rm_X0_didAll [.ref a_t, .ref a_p1, .int p2, .int p3] (wd_X0_didAll G a_t a_t_deal a_p1 a_p1_borrower a_p1_lender a_p1_limit a_p1_year a_t_way a_t_foundNothing t_size t_deal p1_persons p1_deals p1_lawYears p1_toldParts a_p1_personNames a_p1_born a_p1_dies a_p1_dealNames a_p1_lenderGain a_p1_borrowerGain a_p1_either a_p1_byYear a_p1_memo p1_borrower p1_lender p1_limit p1_year) (some (.int (b2i r))) (wd_X0_didAll G a_t a_t_deal a_p1 a_p1_borrower a_p1_lender a_p1_limit a_p1_year a_t_way a_t_foundNothing t_size t_deal p1_persons p1_deals p1_lawYears p1_toldParts a_p1_personNames a_p1_born a_p1_dies a_p1_dealNames a_p1_lenderGain a_p1_borrowerGain a_p1_either a_p1_byYear a_p1_memo p1_borrower p1_lender p1_limit p1_year) := by
  refine jM_of (own := RX0) (by decide) rfl rfl rfl (Nat.le_of_ble_eq_true rfl) (lv0 := [(0, .ref a_t), (1, .ref a_p1), (2, .int p2), (3, .int p3)]) rfl (fun X C hE => ?_)
  unfold dn_X0_didAll at hd
  refine j_iconst (pc := 0) (v := 0) C dX0_didAll_0 jk_I0 ?_
  refine j_istore (pc := 1) (lv2 := [(0, .ref a_t), (1, .ref a_p1), (2, .int p2), (3, .int p3), (4, .int 0)]) C dX0_didAll_1 (by decide) [1, 2, 3, 4, 0] rfl ?_
  refine j_iconst (pc := 3) (v := 0) C dX0_didAll_3 jk_I0 ?_
  refine j_istore (pc := 4) (lv2 := [(0, .ref a_t), (1, .ref a_p1), (2, .int p2), (3, .int p3), (4, .int 0), (5, .int 0)]) C dX0_didAll_4 (by decide) [1, 2, 3, 4, 5, 0] rfl ?_
  refine j_sub (lv2 := [(0, .ref a_t), (1, .ref a_p1), (2, .int p2), (3, .int p3), (4, .int 0), (5, .int 0)]) [0, 1, 2, 3, 4, 5] rfl ?_
  obtain ⟨n, hn⟩ := lpC_ex hd
  exact (la_X0_didAll l G a_t a_t_deal a_p1 a_p1_borrower a_p1_lender a_p1_limit a_p1_year a_t_way a_t_foundNothing t_size t_deal p1_persons p1_deals p1_lawYears p1_toldParts a_p1_personNames a_p1_born a_p1_dies a_p1_dealNames a_p1_lenderGain a_p1_borrowerGain a_p1_either a_p1_byYear a_p1_memo p1_borrower p1_lender p1_limit p1_year p2 p3 X C r hE n) 0 0 hn
/-! ##### LendTown$Book.wrongOf(LLendTown$Town;II)I -/
abbrev rm_X0_wrongOf : Room := { frames := 2, cells := 0, slots := 0, locals := 47 }
theorem jy_X0_wrongOf : jY yX0_wrongOf wsX0_wrongOf rm_X0_wrongOf cX0_wrongOf 7 (some .int) 3 := ⟨⟨_, rfl⟩, ⟨rfl, rfl⟩, by decide, by decide, by decide +kernel⟩
theorem in_X0_wrongOf_X0 : ∀ w ∈ u_ws RX0 TX0 4, w ∈ wsX0_wrongOf := fun w h => List.mem_cons_of_mem _ (List.mem_append_right _ (h))
theorem in_X0_wrongOf_X10 : ∀ w ∈ u_ws RX10 TX10 17, w ∈ wsX0_wrongOf := fun w h => List.mem_cons_of_mem _ (List.mem_append_left _ (List.mem_append_right _ (h)))
theorem fl_X0_wrongOf_53 : Cond.fieldLink RX0 53 "LendTown$Town" "either" "[I" ∈ wsX0_wrongOf := List.mem_of_getElem? (i := 1) rfl
theorem fl_X0_wrongOf_40 : Cond.fieldLink RX0 40 "LendTown$Town" "year" "[I" ∈ wsX0_wrongOf := List.mem_of_getElem? (i := 2) rfl
theorem fl_X0_wrongOf_21 : Cond.fieldLink RX0 21 "LendTown$Book" "size" "I" ∈ wsX0_wrongOf := List.mem_of_getElem? (i := 3) rfl
theorem fl_X0_wrongOf_9 : Cond.fieldLink RX0 9 "LendTown$Book" "deal" "[I" ∈ wsX0_wrongOf := List.mem_of_getElem? (i := 4) rfl
theorem fl_X0_wrongOf_35 : Cond.fieldLink RX0 35 "LendTown$Town" "lender" "[I" ∈ wsX0_wrongOf := List.mem_of_getElem? (i := 6) rfl
theorem fl_X0_wrongOf_46 : Cond.fieldLink RX0 46 "LendTown$Town" "borrower" "[I" ∈ wsX0_wrongOf := List.mem_of_getElem? (i := 5) rfl
def wd_X0_wrongOf (G : jG) (a_t : Nat) (a_t_deal : Nat) (a_t_foundNothing : Nat) (a_t_way : Nat) (a_p1 : Nat) (a_p1_borrower : Nat) (a_p1_either : Nat) (a_p1_lender : Nat) (a_p1_limit : Nat) (a_p1_year : Nat) (t_size : Int32) (t_deal : Nat → Int32) (t_foundNothing : Nat → Int32) (t_way : Nat → Int32) (p1_persons : Int32) (p1_deals : Int32) (p1_lawYears : Int32) (p1_toldParts : Int32) (a_p1_personNames : Nat) (a_p1_born : Nat) (a_p1_dies : Nat) (a_p1_dealNames : Nat) (a_p1_lenderGain : Nat) (a_p1_borrowerGain : Nat) (a_p1_byYear : Nat) (a_p1_memo : Nat) (p1_borrower : Nat → Int32) (p1_either : Nat → Int32) (p1_lender : Nat → Int32) (p1_limit : Nat → Int32) (p1_year : Nat → Int32) : va_W := [(a_t, .inr (0, [.ref a_t_deal, .ref a_t_way, .ref a_t_foundNothing, .int t_size])), (a_t_deal, .inl (G.2.2.1, 30, .inl t_deal)), (a_t_foundNothing, .inl (G.2.2.1, 30, .inl t_foundNothing)), (a_t_way, .inl (G.2.2.1, 30, .inl t_way)), (a_p1, .inr (10, [.int p1_persons, .int p1_deals, .int p1_lawYears, .int p1_toldParts, .ref a_p1_personNames, .ref a_p1_born, .ref a_p1_dies, .ref a_p1_limit, .ref a_p1_dealNames, .ref a_p1_lender, .ref a_p1_borrower, .ref a_p1_year, .ref a_p1_lenderGain, .ref a_p1_borrowerGain, .ref a_p1_either, .ref a_p1_byYear, .ref a_p1_memo])), (a_p1_borrower, .inl (G.2.2.1, 30, .inl p1_borrower)), (a_p1_either, .inl (G.2.2.1, 30, .inl p1_either)), (a_p1_lender, .inl (G.2.2.1, 30, .inl p1_lender)), (a_p1_limit, .inl (G.2.2.1, 10, .inl p1_limit)), (a_p1_year, .inl (G.2.2.1, 30, .inl p1_year))]
set_option maxHeartbeats 8000000 in
set_option maxRecDepth 100000 in
theorem lb_X0_wrongOf_0 (l : Launch) (G : jG) (a_t : Nat) (a_t_deal : Nat) (a_t_foundNothing : Nat) (a_t_way : Nat) (a_p1 : Nat) (a_p1_borrower : Nat) (a_p1_either : Nat) (a_p1_lender : Nat) (a_p1_limit : Nat) (a_p1_year : Nat) (t_size : Int32) (t_deal : Nat → Int32) (t_foundNothing : Nat → Int32) (t_way : Nat → Int32) (p1_persons : Int32) (p1_deals : Int32) (p1_lawYears : Int32) (p1_toldParts : Int32) (a_p1_personNames : Nat) (a_p1_born : Nat) (a_p1_dies : Nat) (a_p1_dealNames : Nat) (a_p1_lenderGain : Nat) (a_p1_borrowerGain : Nat) (a_p1_byYear : Nat) (a_p1_memo : Nat) (p1_borrower : Nat → Int32) (p1_either : Nat → Int32) (p1_lender : Nat → Int32) (p1_limit : Nat → Int32) (p1_year : Nat → Int32) (p2 : Int32) (p3 : Int32) (X : jX) (C : jC X l G 7 rm_X0_wrongOf cX0_wrongOf RX0 wsX0_wrongOf) (r : Int32) (hE : jE X (some .int) (some (.int r)) (wd_X0_wrongOf G a_t a_t_deal a_t_foundNothing a_t_way a_p1 a_p1_borrower a_p1_either a_p1_lender a_p1_limit a_p1_year t_size t_deal t_foundNothing t_way p1_persons p1_deals p1_lawYears p1_toldParts a_p1_personNames a_p1_born a_p1_dies a_p1_dealNames a_p1_lenderGain a_p1_borrowerGain a_p1_byYear a_p1_memo p1_borrower p1_either p1_lender p1_limit p1_year)) (n : Nat) (IH1 : ∀ (v4 : Int32), lpN (st_X0_wrongOf t_size t_deal t_foundNothing t_way p1_lawYears p1_borrower p1_lender p1_limit p1_year p2 p3) n (.inr (.inl v4)) = some r → J X 0 0 (wd_X0_wrongOf G a_t a_t_deal a_t_foundNothing a_t_way a_p1 a_p1_borrower a_p1_either a_p1_lender a_p1_limit a_p1_year t_size t_deal t_foundNothing t_way p1_persons p1_deals p1_lawYears p1_toldParts a_p1_personNames a_p1_born a_p1_dies a_p1_dealNames a_p1_lenderGain a_p1_borrowerGain a_p1_byYear a_p1_memo p1_borrower p1_either p1_lender p1_limit p1_year) [(0, .ref a_t), (1, .ref a_p1), (2, .int p2), (3, .int p3), (4, .int v4)] 64 [])  (hd : lpR (st_X0_wrongOf t_size t_deal t_foundNothing t_way p1_lawYears p1_borrower p1_lender p1_limit p1_year p2 p3) n (bd_X0_wrongOf_0 t_size t_deal t_foundNothing t_way p1_lawYears p1_borrower p1_lender p1_limit p1_year p2 p3 ) = some r) : J X 0 0 (wd_X0_wrongOf G a_t a_t_deal a_t_foundNothing a_t_way a_p1 a_p1_borrower a_p1_either a_p1_lender a_p1_limit a_p1_year t_size t_deal t_foundNothing t_way p1_persons p1_deals p1_lawYears p1_toldParts a_p1_personNames a_p1_born a_p1_dies a_p1_dealNames a_p1_lenderGain a_p1_borrowerGain a_p1_byYear a_p1_memo p1_borrower p1_either p1_lender p1_limit p1_year) [(0, .ref a_t), (1, .ref a_p1), (2, .int p2), (3, .int p3)] 26 [] := by
  unfold bd_X0_wrongOf_0 at hd
  refine j_aload_n (pc := 26) C dX0_wrongOf_26 rfl 1 rfl ?_
  refine j_get (pc := 27) (q0 := 4) (ci := 10) (kf := 11) C dX0_wrongOf_27 in_X0_wrongOf_X10 rfl (by decide) fl_X0_wrongOf_40 rfl rfl ?_
  refine j_iload_n (pc := 30) C dX0_wrongOf_30 rfl 2 rfl ?_
  obtain ⟨h6, hd⟩ := lp_chk hd
  refine j_iald (pc := 31) (q0 := 9) C dX0_wrongOf_31 rfl h6 ?_
  refine j_istore (pc := 32) (lv2 := [(0, .ref a_t), (1, .ref a_p1), (2, .int p2), (3, .int p3), (4, .int (p1_year (p2).toNatClampNeg))]) C dX0_wrongOf_32 (by decide) [1, 2, 3, 4, 0] rfl ?_
  refine j_aload_n (pc := 34) C dX0_wrongOf_34 rfl 0 rfl ?_
  refine j_get (pc := 35) (q0 := 0) (ci := 0) (kf := 3) C dX0_wrongOf_35 in_X0_wrongOf_X0 rfl (by decide) fl_X0_wrongOf_21 rfl rfl ?_
  refine j_if_le (pc := 38) (tgt := 64) C dX0_wrongOf_38 (by decide) (fun c7 => ?_) (fun c7 => ?_)
  · have hd := lp_pos c7 hd
    refine j_sub (lv2 := [(0, .ref a_t), (1, .ref a_p1), (2, .int p2), (3, .int p3), (4, .int (p1_year (p2).toNatClampNeg))]) [0, 1, 2, 3, 4] rfl ?_
    exact IH1 (p1_year (p2).toNatClampNeg) hd
  · have hd := lp_neg c7 hd
    refine j_iload (pc := 41) C dX0_wrongOf_41 4 rfl ?_
    refine j_aload_n (pc := 43) C dX0_wrongOf_43 rfl 1 rfl ?_
    refine j_get (pc := 44) (q0 := 4) (ci := 10) (kf := 11) C dX0_wrongOf_44 in_X0_wrongOf_X10 rfl (by decide) fl_X0_wrongOf_40 rfl rfl ?_
    refine j_aload_n (pc := 47) C dX0_wrongOf_47 rfl 0 rfl ?_
    refine j_get (pc := 48) (q0 := 0) (ci := 0) (kf := 0) C dX0_wrongOf_48 in_X0_wrongOf_X0 rfl (by decide) fl_X0_wrongOf_9 rfl rfl ?_
    refine j_aload_n (pc := 51) C dX0_wrongOf_51 rfl 0 rfl ?_
    refine j_get (pc := 52) (q0 := 0) (ci := 0) (kf := 3) C dX0_wrongOf_52 in_X0_wrongOf_X0 rfl (by decide) fl_X0_wrongOf_21 rfl rfl ?_
    refine j_iconst (pc := 55) (v := 1) C dX0_wrongOf_55 jk_I1 ?_
    refine j_isub (pc := 56) C dX0_wrongOf_56 ?_
    obtain ⟨h8, hd⟩ := lp_chk hd
    refine j_iald (pc := 57) (q0 := 1) C dX0_wrongOf_57 rfl h8 ?_
    obtain ⟨h9, hd⟩ := lp_chk hd
    refine j_iald (pc := 58) (q0 := 9) C dX0_wrongOf_58 rfl h9 ?_
    refine j_icmp_ge (pc := 59) (tgt := 64) C dX0_wrongOf_59 (by decide) (fun c10 => ?_) (fun c10 => ?_)
    · have hd := lp_pos c10 hd
      refine j_sub (lv2 := [(0, .ref a_t), (1, .ref a_p1), (2, .int p2), (3, .int p3), (4, .int (p1_year (p2).toNatClampNeg))]) [0, 1, 2, 3, 4] rfl ?_
      exact IH1 (p1_year (p2).toNatClampNeg) hd
    · have hd := lp_neg c10 hd
      refine j_iconst (pc := 62) (v := 3) C dX0_wrongOf_62 jk_I3 ?_
      obtain rfl := Option.some.inj hd
      exact j_iret (pc := 63) C hE dX0_wrongOf_63 rfl rfl
set_option maxHeartbeats 8000000 in
set_option maxRecDepth 100000 in
theorem lb_X0_wrongOf_1 (l : Launch) (G : jG) (a_t : Nat) (a_t_deal : Nat) (a_t_foundNothing : Nat) (a_t_way : Nat) (a_p1 : Nat) (a_p1_borrower : Nat) (a_p1_either : Nat) (a_p1_lender : Nat) (a_p1_limit : Nat) (a_p1_year : Nat) (t_size : Int32) (t_deal : Nat → Int32) (t_foundNothing : Nat → Int32) (t_way : Nat → Int32) (p1_persons : Int32) (p1_deals : Int32) (p1_lawYears : Int32) (p1_toldParts : Int32) (a_p1_personNames : Nat) (a_p1_born : Nat) (a_p1_dies : Nat) (a_p1_dealNames : Nat) (a_p1_lenderGain : Nat) (a_p1_borrowerGain : Nat) (a_p1_byYear : Nat) (a_p1_memo : Nat) (p1_borrower : Nat → Int32) (p1_either : Nat → Int32) (p1_lender : Nat → Int32) (p1_limit : Nat → Int32) (p1_year : Nat → Int32) (p2 : Int32) (p3 : Int32) (X : jX) (C : jC X l G 7 rm_X0_wrongOf cX0_wrongOf RX0 wsX0_wrongOf) (r : Int32) (hE : jE X (some .int) (some (.int r)) (wd_X0_wrongOf G a_t a_t_deal a_t_foundNothing a_t_way a_p1 a_p1_borrower a_p1_either a_p1_lender a_p1_limit a_p1_year t_size t_deal t_foundNothing t_way p1_persons p1_deals p1_lawYears p1_toldParts a_p1_personNames a_p1_born a_p1_dies a_p1_dealNames a_p1_lenderGain a_p1_borrowerGain a_p1_byYear a_p1_memo p1_borrower p1_either p1_lender p1_limit p1_year)) (n : Nat) (IH2 : ∀ (v4 : Int32) (k0 : Int32), lpN (st_X0_wrongOf t_size t_deal t_foundNothing t_way p1_lawYears p1_borrower p1_lender p1_limit p1_year p2 p3) n (.inr (.inr ((v4, k0)))) = some r → J X 0 0 (wd_X0_wrongOf G a_t a_t_deal a_t_foundNothing a_t_way a_p1 a_p1_borrower a_p1_either a_p1_lender a_p1_limit a_p1_year t_size t_deal t_foundNothing t_way p1_persons p1_deals p1_lawYears p1_toldParts a_p1_personNames a_p1_born a_p1_dies a_p1_dealNames a_p1_lenderGain a_p1_borrowerGain a_p1_byYear a_p1_memo p1_borrower p1_either p1_lender p1_limit p1_year) [(0, .ref a_t), (1, .ref a_p1), (2, .int p2), (4, .int v4)] 84 [.int k0]) (v4 : Int32) (hd : lpR (st_X0_wrongOf t_size t_deal t_foundNothing t_way p1_lawYears p1_borrower p1_lender p1_limit p1_year p2 p3) n (bd_X0_wrongOf_1 t_size t_deal t_foundNothing t_way p1_lawYears p1_borrower p1_lender p1_limit p1_year p2 p3 v4) = some r) : J X 0 0 (wd_X0_wrongOf G a_t a_t_deal a_t_foundNothing a_t_way a_p1 a_p1_borrower a_p1_either a_p1_lender a_p1_limit a_p1_year t_size t_deal t_foundNothing t_way p1_persons p1_deals p1_lawYears p1_toldParts a_p1_personNames a_p1_born a_p1_dies a_p1_dealNames a_p1_lenderGain a_p1_borrowerGain a_p1_byYear a_p1_memo p1_borrower p1_either p1_lender p1_limit p1_year) [(0, .ref a_t), (1, .ref a_p1), (2, .int p2), (3, .int p3), (4, .int v4)] 64 [] := by
  unfold bd_X0_wrongOf_1 at hd
  refine j_iload_n (pc := 64) C dX0_wrongOf_64 rfl 3 rfl ?_
  refine j_iconst (pc := 65) (v := 2) C dX0_wrongOf_65 jk_I2 ?_
  refine j_icmp_ne (pc := 66) (tgt := 78) C dX0_wrongOf_66 (by decide) (fun c11 => ?_) (fun c11 => ?_)
  · have hd := lp_neg c11 hd
    refine j_aload_n (pc := 78) C dX0_wrongOf_78 rfl 1 rfl ?_
    refine j_get (pc := 79) (q0 := 4) (ci := 10) (kf := 9) C dX0_wrongOf_79 in_X0_wrongOf_X10 rfl (by decide) fl_X0_wrongOf_35 rfl rfl ?_
    refine j_iload_n (pc := 82) C dX0_wrongOf_82 rfl 2 rfl ?_
    obtain ⟨h12, hd⟩ := lp_chk hd
    refine j_iald (pc := 83) (q0 := 7) C dX0_wrongOf_83 rfl h12 ?_
    refine j_sub (lv2 := [(0, .ref a_t), (1, .ref a_p1), (2, .int p2), (4, .int v4)]) [0, 1, 2, 4] rfl ?_
    exact IH2 v4 (p1_lender (p2).toNatClampNeg) hd
  · have hd := lp_pos c11 hd
    refine j_aload_n (pc := 69) C dX0_wrongOf_69 rfl 1 rfl ?_
    refine j_get (pc := 70) (q0 := 4) (ci := 10) (kf := 10) C dX0_wrongOf_70 in_X0_wrongOf_X10 rfl (by decide) fl_X0_wrongOf_46 rfl rfl ?_
    refine j_iload_n (pc := 73) C dX0_wrongOf_73 rfl 2 rfl ?_
    obtain ⟨h13, hd⟩ := lp_chk hd
    refine j_iald (pc := 74) (q0 := 5) C dX0_wrongOf_74 rfl h13 ?_
    refine j_goto (pc := 75) (tgt := 84) C dX0_wrongOf_75 (by decide) ?_
    refine j_sub (lv2 := [(0, .ref a_t), (1, .ref a_p1), (2, .int p2), (4, .int v4)]) [0, 1, 2, 4] rfl ?_
    exact IH2 v4 (p1_borrower (p2).toNatClampNeg) hd
set_option maxHeartbeats 8000000 in
set_option maxRecDepth 100000 in
theorem lb_X0_wrongOf_2 (l : Launch) (G : jG) (a_t : Nat) (a_t_deal : Nat) (a_t_foundNothing : Nat) (a_t_way : Nat) (a_p1 : Nat) (a_p1_borrower : Nat) (a_p1_either : Nat) (a_p1_lender : Nat) (a_p1_limit : Nat) (a_p1_year : Nat) (t_size : Int32) (t_deal : Nat → Int32) (t_foundNothing : Nat → Int32) (t_way : Nat → Int32) (p1_persons : Int32) (p1_deals : Int32) (p1_lawYears : Int32) (p1_toldParts : Int32) (a_p1_personNames : Nat) (a_p1_born : Nat) (a_p1_dies : Nat) (a_p1_dealNames : Nat) (a_p1_lenderGain : Nat) (a_p1_borrowerGain : Nat) (a_p1_byYear : Nat) (a_p1_memo : Nat) (p1_borrower : Nat → Int32) (p1_either : Nat → Int32) (p1_lender : Nat → Int32) (p1_limit : Nat → Int32) (p1_year : Nat → Int32) (p2 : Int32) (p3 : Int32) (X : jX) (C : jC X l G 7 rm_X0_wrongOf cX0_wrongOf RX0 wsX0_wrongOf) (r : Int32) (hE : jE X (some .int) (some (.int r)) (wd_X0_wrongOf G a_t a_t_deal a_t_foundNothing a_t_way a_p1 a_p1_borrower a_p1_either a_p1_lender a_p1_limit a_p1_year t_size t_deal t_foundNothing t_way p1_persons p1_deals p1_lawYears p1_toldParts a_p1_personNames a_p1_born a_p1_dies a_p1_dealNames a_p1_lenderGain a_p1_borrowerGain a_p1_byYear a_p1_memo p1_borrower p1_either p1_lender p1_limit p1_year)) (n : Nat)  (v4 : Int32) (k0 : Int32) (hd : lpR (st_X0_wrongOf t_size t_deal t_foundNothing t_way p1_lawYears p1_borrower p1_lender p1_limit p1_year p2 p3) n (bd_X0_wrongOf_2 t_size t_deal t_foundNothing t_way p1_lawYears p1_borrower p1_lender p1_limit p1_year p2 p3 v4 k0) = some r) : J X 0 0 (wd_X0_wrongOf G a_t a_t_deal a_t_foundNothing a_t_way a_p1 a_p1_borrower a_p1_either a_p1_lender a_p1_limit a_p1_year t_size t_deal t_foundNothing t_way p1_persons p1_deals p1_lawYears p1_toldParts a_p1_personNames a_p1_born a_p1_dies a_p1_dealNames a_p1_lenderGain a_p1_borrowerGain a_p1_byYear a_p1_memo p1_borrower p1_either p1_lender p1_limit p1_year) [(0, .ref a_t), (1, .ref a_p1), (2, .int p2), (4, .int v4)] 84 [.int k0] := by
  unfold bd_X0_wrongOf_2 at hd
  refine j_istore (pc := 84) (lv2 := [(0, .ref a_t), (1, .ref a_p1), (2, .int p2), (4, .int v4), (5, .int k0)]) C dX0_wrongOf_84 (by decide) [1, 2, 3, 4, 0] rfl ?_
  refine j_aload_n (pc := 86) C dX0_wrongOf_86 rfl 1 rfl ?_
  refine j_iload_n (pc := 87) C dX0_wrongOf_87 rfl 2 rfl ?_
  refine j_iload (pc := 88) C dX0_wrongOf_88 4 rfl ?_
  obtain ⟨q14, eq14, hd⟩ := lp_bind hd
  refine j_callV (pc := 90) (q0 := 4) (ci := 10) (As := [.int p2, .int k0]) (rest := []) (st2 := [.int q14]) (ws2 := wd_X0_wrongOf G a_t a_t_deal a_t_foundNothing a_t_way a_p1 a_p1_borrower a_p1_either a_p1_lender a_p1_limit a_p1_year t_size t_deal t_foundNothing t_way p1_persons p1_deals p1_lawYears p1_toldParts a_p1_personNames a_p1_born a_p1_dies a_p1_dealNames a_p1_lenderGain a_p1_borrowerGain a_p1_byYear a_p1_memo p1_borrower p1_either p1_lender p1_limit p1_year) C (ct_X10_otherIn l G a_p1 a_p1_borrower a_p1_lender p1_persons p1_deals p1_lawYears p1_toldParts a_p1_personNames a_p1_born a_p1_dies a_p1_limit a_p1_dealNames a_p1_year a_p1_lenderGain a_p1_borrowerGain a_p1_either a_p1_byYear a_p1_memo p1_borrower p1_lender p2 k0 q14 eq14) jy_X10_otherIn dX0_wrongOf_90 gX0_wrongOf_X10_otherIn rfl rfl (by decide) ⟨Nat.zero_le _, Nat.zero_le _⟩ [4, 5, 7] rfl rfl (jpt_eq rfl rfl rfl) rfl rfl rfl (Nat.le_of_ble_eq_true rfl) rfl ?_
  refine j_istore (pc := 93) (lv2 := [(0, .ref a_t), (1, .ref a_p1), (4, .int v4), (5, .int k0), (6, .int q14)]) C dX0_wrongOf_93 (by decide) [1, 2, 4, 5, 0] rfl ?_
  refine j_aload_n (pc := 95) C dX0_wrongOf_95 rfl 0 rfl ?_
  refine j_aload_n (pc := 96) C dX0_wrongOf_96 rfl 1 rfl ?_
  refine j_iload (pc := 97) C dX0_wrongOf_97 3 rfl ?_
  refine j_iload (pc := 99) C dX0_wrongOf_99 2 rfl ?_
  obtain ⟨q15, eq15, hd⟩ := lp_bind hd
  refine j_callV (pc := 101) (q0 := 0) (ci := 0) (As := [.ref a_p1, .int k0, .int v4]) (rest := []) (st2 := [.int q15]) (ws2 := wd_X0_wrongOf G a_t a_t_deal a_t_foundNothing a_t_way a_p1 a_p1_borrower a_p1_either a_p1_lender a_p1_limit a_p1_year t_size t_deal t_foundNothing t_way p1_persons p1_deals p1_lawYears p1_toldParts a_p1_personNames a_p1_born a_p1_dies a_p1_dealNames a_p1_lenderGain a_p1_borrowerGain a_p1_byYear a_p1_memo p1_borrower p1_either p1_lender p1_limit p1_year) C (ct_X0_whatIs l G a_t a_t_deal a_t_foundNothing a_t_way a_p1 a_p1_borrower a_p1_lender a_p1_year t_size t_deal t_foundNothing t_way p1_persons p1_deals p1_lawYears p1_toldParts a_p1_personNames a_p1_born a_p1_dies a_p1_limit a_p1_dealNames a_p1_lenderGain a_p1_borrowerGain a_p1_either a_p1_byYear a_p1_memo p1_borrower p1_lender p1_year k0 v4 q15 eq15) jy_X0_whatIs dX0_wrongOf_101 gX0_wrongOf_X0_whatIs rfl rfl (by decide) ⟨Nat.zero_le _, Nat.zero_le _⟩ [0, 1, 2, 3, 4, 5, 7, 9] rfl rfl (jpt_eq rfl rfl rfl) rfl rfl rfl (Nat.le_of_ble_eq_true rfl) rfl ?_
  refine j_iconst (pc := 104) (v := 2) C dX0_wrongOf_104 jk_I2 ?_
  refine j_icmp_ne (pc := 105) (tgt := 110) C dX0_wrongOf_105 (by decide) (fun c16 => ?_) (fun c16 => ?_)
  · have hd := lp_neg c16 hd
    refine j_aload_n (pc := 110) C dX0_wrongOf_110 rfl 0 rfl ?_
    refine j_aload_n (pc := 111) C dX0_wrongOf_111 rfl 1 rfl ?_
    refine j_iload (pc := 112) C dX0_wrongOf_112 4 rfl ?_
    refine j_iload (pc := 114) C dX0_wrongOf_114 2 rfl ?_
    obtain ⟨q17, eq17, hd⟩ := lp_bind hd
    refine j_callV (pc := 116) (q0 := 0) (ci := 0) (As := [.ref a_p1, .int q14, .int v4]) (rest := []) (st2 := [.int q17]) (ws2 := wd_X0_wrongOf G a_t a_t_deal a_t_foundNothing a_t_way a_p1 a_p1_borrower a_p1_either a_p1_lender a_p1_limit a_p1_year t_size t_deal t_foundNothing t_way p1_persons p1_deals p1_lawYears p1_toldParts a_p1_personNames a_p1_born a_p1_dies a_p1_dealNames a_p1_lenderGain a_p1_borrowerGain a_p1_byYear a_p1_memo p1_borrower p1_either p1_lender p1_limit p1_year) C (ct_X0_whatIs l G a_t a_t_deal a_t_foundNothing a_t_way a_p1 a_p1_borrower a_p1_lender a_p1_year t_size t_deal t_foundNothing t_way p1_persons p1_deals p1_lawYears p1_toldParts a_p1_personNames a_p1_born a_p1_dies a_p1_limit a_p1_dealNames a_p1_lenderGain a_p1_borrowerGain a_p1_either a_p1_byYear a_p1_memo p1_borrower p1_lender p1_year q14 v4 q17 eq17) jy_X0_whatIs dX0_wrongOf_116 gX0_wrongOf_X0_whatIs rfl rfl (by decide) ⟨Nat.zero_le _, Nat.zero_le _⟩ [0, 1, 2, 3, 4, 5, 7, 9] rfl rfl (jpt_eq rfl rfl rfl) rfl rfl rfl (Nat.le_of_ble_eq_true rfl) rfl ?_
    refine j_iconst (pc := 119) (v := 1) C dX0_wrongOf_119 jk_I1 ?_
    refine j_icmp_ne (pc := 120) (tgt := 125) C dX0_wrongOf_120 (by decide) (fun c18 => ?_) (fun c18 => ?_)
    · have hd := lp_neg c18 hd
      refine j_aload_n (pc := 125) C dX0_wrongOf_125 rfl 0 rfl ?_
      refine j_aload_n (pc := 126) C dX0_wrongOf_126 rfl 1 rfl ?_
      refine j_iload (pc := 127) C dX0_wrongOf_127 3 rfl ?_
      refine j_iload (pc := 129) C dX0_wrongOf_129 2 rfl ?_
      obtain ⟨q19, eq19, hd⟩ := lp_bind hd
      refine j_callV (pc := 131) (q0 := 0) (ci := 0) (As := [.ref a_p1, .int k0, .int v4]) (rest := []) (st2 := [.int (b2i q19)]) (ws2 := wd_X0_wrongOf G a_t a_t_deal a_t_foundNothing a_t_way a_p1 a_p1_borrower a_p1_either a_p1_lender a_p1_limit a_p1_year t_size t_deal t_foundNothing t_way p1_persons p1_deals p1_lawYears p1_toldParts a_p1_personNames a_p1_born a_p1_dies a_p1_dealNames a_p1_lenderGain a_p1_borrowerGain a_p1_byYear a_p1_memo p1_borrower p1_either p1_lender p1_limit p1_year) C (ct_X0_didAll l G a_t a_t_deal a_p1 a_p1_borrower a_p1_lender a_p1_limit a_p1_year a_t_way a_t_foundNothing t_size t_deal p1_persons p1_deals p1_lawYears p1_toldParts a_p1_personNames a_p1_born a_p1_dies a_p1_dealNames a_p1_lenderGain a_p1_borrowerGain a_p1_either a_p1_byYear a_p1_memo p1_borrower p1_lender p1_limit p1_year k0 v4 q19 eq19) jy_X0_didAll dX0_wrongOf_131 gX0_wrongOf_X0_didAll rfl rfl (by decide) ⟨Nat.zero_le _, Nat.zero_le _⟩ [0, 1, 4, 5, 7, 8, 9] rfl rfl (jpt_eq rfl rfl rfl) rfl rfl rfl (Nat.le_of_ble_eq_true rfl) rfl ?_
      refine j_ifb_ne (pc := 134) (tgt := 149) C dX0_wrongOf_134 (by decide) (fun c20 => ?_) (fun c20 => ?_)
      · have hd := lp_pos c20 hd
        refine j_bipush (pc := 149) (v := 6) C dX0_wrongOf_149 jk_B6 ?_
        refine j_goto (pc := 151) (tgt := 155) C dX0_wrongOf_151 (by decide) ?_
        obtain rfl := Option.some.inj hd
        exact j_iret (pc := 155) C hE dX0_wrongOf_155 rfl rfl
      · have hd := lp_neg c20 hd
        refine j_aload_n (pc := 137) C dX0_wrongOf_137 rfl 0 rfl ?_
        refine j_aload_n (pc := 138) C dX0_wrongOf_138 rfl 1 rfl ?_
        refine j_iload (pc := 139) C dX0_wrongOf_139 4 rfl ?_
        refine j_iload (pc := 141) C dX0_wrongOf_141 2 rfl ?_
        obtain ⟨q21, eq21, hd⟩ := lp_bind hd
        refine j_callV (pc := 143) (q0 := 0) (ci := 0) (As := [.ref a_p1, .int q14, .int v4]) (rest := []) (st2 := [.int (b2i q21)]) (ws2 := wd_X0_wrongOf G a_t a_t_deal a_t_foundNothing a_t_way a_p1 a_p1_borrower a_p1_either a_p1_lender a_p1_limit a_p1_year t_size t_deal t_foundNothing t_way p1_persons p1_deals p1_lawYears p1_toldParts a_p1_personNames a_p1_born a_p1_dies a_p1_dealNames a_p1_lenderGain a_p1_borrowerGain a_p1_byYear a_p1_memo p1_borrower p1_either p1_lender p1_limit p1_year) C (ct_X0_didAll l G a_t a_t_deal a_p1 a_p1_borrower a_p1_lender a_p1_limit a_p1_year a_t_way a_t_foundNothing t_size t_deal p1_persons p1_deals p1_lawYears p1_toldParts a_p1_personNames a_p1_born a_p1_dies a_p1_dealNames a_p1_lenderGain a_p1_borrowerGain a_p1_either a_p1_byYear a_p1_memo p1_borrower p1_lender p1_limit p1_year q14 v4 q21 eq21) jy_X0_didAll dX0_wrongOf_143 gX0_wrongOf_X0_didAll rfl rfl (by decide) ⟨Nat.zero_le _, Nat.zero_le _⟩ [0, 1, 4, 5, 7, 8, 9] rfl rfl (jpt_eq rfl rfl rfl) rfl rfl rfl (Nat.le_of_ble_eq_true rfl) rfl ?_
        refine j_ifb_eq (pc := 146) (tgt := 154) C dX0_wrongOf_146 (by decide) (fun c22 => ?_) (fun c22 => ?_)
        · have hd := lp_neg c22 hd
          refine j_iconst (pc := 154) (v := 0) C dX0_wrongOf_154 jk_I0 ?_
          obtain rfl := Option.some.inj hd
          exact j_iret (pc := 155) C hE dX0_wrongOf_155 rfl rfl
        · have hd := lp_pos c22 hd
          refine j_bipush (pc := 149) (v := 6) C dX0_wrongOf_149 jk_B6 ?_
          refine j_goto (pc := 151) (tgt := 155) C dX0_wrongOf_151 (by decide) ?_
          obtain rfl := Option.some.inj hd
          exact j_iret (pc := 155) C hE dX0_wrongOf_155 rfl rfl
    · have hd := lp_pos c18 hd
      refine j_iconst (pc := 123) (v := 5) C dX0_wrongOf_123 jk_I5 ?_
      obtain rfl := Option.some.inj hd
      exact j_iret (pc := 124) C hE dX0_wrongOf_124 rfl rfl
  · have hd := lp_pos c16 hd
    refine j_iconst (pc := 108) (v := 4) C dX0_wrongOf_108 jk_I4 ?_
    obtain rfl := Option.some.inj hd
    exact j_iret (pc := 109) C hE dX0_wrongOf_109 rfl rfl
set_option maxHeartbeats 8000000 in
set_option maxRecDepth 100000 in
theorem la_X0_wrongOf (l : Launch) (G : jG) (a_t : Nat) (a_t_deal : Nat) (a_t_foundNothing : Nat) (a_t_way : Nat) (a_p1 : Nat) (a_p1_borrower : Nat) (a_p1_either : Nat) (a_p1_lender : Nat) (a_p1_limit : Nat) (a_p1_year : Nat) (t_size : Int32) (t_deal : Nat → Int32) (t_foundNothing : Nat → Int32) (t_way : Nat → Int32) (p1_persons : Int32) (p1_deals : Int32) (p1_lawYears : Int32) (p1_toldParts : Int32) (a_p1_personNames : Nat) (a_p1_born : Nat) (a_p1_dies : Nat) (a_p1_dealNames : Nat) (a_p1_lenderGain : Nat) (a_p1_borrowerGain : Nat) (a_p1_byYear : Nat) (a_p1_memo : Nat) (p1_borrower : Nat → Int32) (p1_either : Nat → Int32) (p1_lender : Nat → Int32) (p1_limit : Nat → Int32) (p1_year : Nat → Int32) (p2 : Int32) (p3 : Int32) (X : jX) (C : jC X l G 7 rm_X0_wrongOf cX0_wrongOf RX0 wsX0_wrongOf) (r : Int32) (hE : jE X (some .int) (some (.int r)) (wd_X0_wrongOf G a_t a_t_deal a_t_foundNothing a_t_way a_p1 a_p1_borrower a_p1_either a_p1_lender a_p1_limit a_p1_year t_size t_deal t_foundNothing t_way p1_persons p1_deals p1_lawYears p1_toldParts a_p1_personNames a_p1_born a_p1_dies a_p1_dealNames a_p1_lenderGain a_p1_borrowerGain a_p1_byYear a_p1_memo p1_borrower p1_either p1_lender p1_limit p1_year)) (n : Nat) : (∀ (_ : Unit), lpN (st_X0_wrongOf t_size t_deal t_foundNothing t_way p1_lawYears p1_borrower p1_lender p1_limit p1_year p2 p3) n (.inl ()) = some r → J X 0 0 (wd_X0_wrongOf G a_t a_t_deal a_t_foundNothing a_t_way a_p1 a_p1_borrower a_p1_either a_p1_lender a_p1_limit a_p1_year t_size t_deal t_foundNothing t_way p1_persons p1_deals p1_lawYears p1_toldParts a_p1_personNames a_p1_born a_p1_dies a_p1_dealNames a_p1_lenderGain a_p1_borrowerGain a_p1_byYear a_p1_memo p1_borrower p1_either p1_lender p1_limit p1_year) [(0, .ref a_t), (1, .ref a_p1), (2, .int p2), (3, .int p3)] 26 []) ∧ (∀ (v4 : Int32), lpN (st_X0_wrongOf t_size t_deal t_foundNothing t_way p1_lawYears p1_borrower p1_lender p1_limit p1_year p2 p3) n (.inr (.inl v4)) = some r → J X 0 0 (wd_X0_wrongOf G a_t a_t_deal a_t_foundNothing a_t_way a_p1 a_p1_borrower a_p1_either a_p1_lender a_p1_limit a_p1_year t_size t_deal t_foundNothing t_way p1_persons p1_deals p1_lawYears p1_toldParts a_p1_personNames a_p1_born a_p1_dies a_p1_dealNames a_p1_lenderGain a_p1_borrowerGain a_p1_byYear a_p1_memo p1_borrower p1_either p1_lender p1_limit p1_year) [(0, .ref a_t), (1, .ref a_p1), (2, .int p2), (3, .int p3), (4, .int v4)] 64 []) ∧ (∀ (v4 : Int32) (k0 : Int32), lpN (st_X0_wrongOf t_size t_deal t_foundNothing t_way p1_lawYears p1_borrower p1_lender p1_limit p1_year p2 p3) n (.inr (.inr ((v4, k0)))) = some r → J X 0 0 (wd_X0_wrongOf G a_t a_t_deal a_t_foundNothing a_t_way a_p1 a_p1_borrower a_p1_either a_p1_lender a_p1_limit a_p1_year t_size t_deal t_foundNothing t_way p1_persons p1_deals p1_lawYears p1_toldParts a_p1_personNames a_p1_born a_p1_dies a_p1_dealNames a_p1_lenderGain a_p1_borrowerGain a_p1_byYear a_p1_memo p1_borrower p1_either p1_lender p1_limit p1_year) [(0, .ref a_t), (1, .ref a_p1), (2, .int p2), (4, .int v4)] 84 [.int k0]) := by
  induction n with
  | zero => exact ⟨(fun _ h => by cases h), (fun v4 h => by cases h), (fun v4 k0 h => by cases h)⟩
  | succ n ih => exact ⟨(fun _ h => lb_X0_wrongOf_0 l G a_t a_t_deal a_t_foundNothing a_t_way a_p1 a_p1_borrower a_p1_either a_p1_lender a_p1_limit a_p1_year t_size t_deal t_foundNothing t_way p1_persons p1_deals p1_lawYears p1_toldParts a_p1_personNames a_p1_born a_p1_dies a_p1_dealNames a_p1_lenderGain a_p1_borrowerGain a_p1_byYear a_p1_memo p1_borrower p1_either p1_lender p1_limit p1_year p2 p3 X C r hE n (ih.2.1)  (by rw [lpN_succ] at h; exact h)), (fun v4 h => lb_X0_wrongOf_1 l G a_t a_t_deal a_t_foundNothing a_t_way a_p1 a_p1_borrower a_p1_either a_p1_lender a_p1_limit a_p1_year t_size t_deal t_foundNothing t_way p1_persons p1_deals p1_lawYears p1_toldParts a_p1_personNames a_p1_born a_p1_dies a_p1_dealNames a_p1_lenderGain a_p1_borrowerGain a_p1_byYear a_p1_memo p1_borrower p1_either p1_lender p1_limit p1_year p2 p3 X C r hE n (ih.2.2) v4 (by rw [lpN_succ] at h; exact h)), (fun v4 k0 h => lb_X0_wrongOf_2 l G a_t a_t_deal a_t_foundNothing a_t_way a_p1 a_p1_borrower a_p1_either a_p1_lender a_p1_limit a_p1_year t_size t_deal t_foundNothing t_way p1_persons p1_deals p1_lawYears p1_toldParts a_p1_personNames a_p1_born a_p1_dies a_p1_dealNames a_p1_lenderGain a_p1_borrowerGain a_p1_byYear a_p1_memo p1_borrower p1_either p1_lender p1_limit p1_year p2 p3 X C r hE n  v4 k0 (by rw [lpN_succ] at h; exact h))⟩
set_option maxHeartbeats 8000000 in
set_option maxRecDepth 100000 in
theorem ct_X0_wrongOf (l : Launch) (G : jG) (a_t : Nat) (a_t_deal : Nat) (a_t_foundNothing : Nat) (a_t_way : Nat) (a_p1 : Nat) (a_p1_borrower : Nat) (a_p1_either : Nat) (a_p1_lender : Nat) (a_p1_limit : Nat) (a_p1_year : Nat) (t_size : Int32) (t_deal : Nat → Int32) (t_foundNothing : Nat → Int32) (t_way : Nat → Int32) (p1_persons : Int32) (p1_deals : Int32) (p1_lawYears : Int32) (p1_toldParts : Int32) (a_p1_personNames : Nat) (a_p1_born : Nat) (a_p1_dies : Nat) (a_p1_dealNames : Nat) (a_p1_lenderGain : Nat) (a_p1_borrowerGain : Nat) (a_p1_byYear : Nat) (a_p1_memo : Nat) (p1_borrower : Nat → Int32) (p1_either : Nat → Int32) (p1_lender : Nat → Int32) (p1_limit : Nat → Int32) (p1_year : Nat → Int32) (p2 : Int32) (p3 : Int32) (r : Int32) (hd : dn_X0_wrongOf t_size t_deal t_foundNothing t_way p1_lawYears p1_borrower p1_either p1_lender p1_limit p1_year p2 p3 = some r) : jM l G yX0_wrongOf wsX0_wrongOf rm_X0_wrongOf [.ref a_t, .ref a_p1, .int p2, .int p3] (wd_X0_wrongOf G a_t a_t_deal a_t_foundNothing a_t_way a_p1 a_p1_borrower a_p1_either a_p1_lender a_p1_limit a_p1_year t_size t_deal t_foundNothing t_way p1_persons p1_deals p1_lawYears p1_toldParts a_p1_personNames a_p1_born a_p1_dies a_p1_dealNames a_p1_lenderGain a_p1_borrowerGain a_p1_byYear a_p1_memo p1_borrower p1_either p1_lender p1_limit p1_year) (some (.int r)) (wd_X0_wrongOf G a_t a_t_deal a_t_foundNothing a_t_way a_p1 a_p1_borrower a_p1_either a_p1_lender a_p1_limit a_p1_year t_size t_deal t_foundNothing t_way p1_persons p1_deals p1_lawYears p1_toldParts a_p1_personNames a_p1_born a_p1_dies a_p1_dealNames a_p1_lenderGain a_p1_borrowerGain a_p1_byYear a_p1_memo p1_borrower p1_either p1_lender p1_limit p1_year) := by
  refine jM_of (own := RX0) (by decide) rfl rfl rfl (Nat.le_of_ble_eq_true rfl) (lv0 := [(0, .ref a_t), (1, .ref a_p1), (2, .int p2), (3, .int p3)]) rfl (fun X C hE => ?_)
  unfold dn_X0_wrongOf at hd
  refine j_aload_n (pc := 0) C dX0_wrongOf_0 rfl 0 rfl ?_
  refine j_iload_n (pc := 1) C dX0_wrongOf_1 rfl 2 rfl ?_
  obtain ⟨q1, eq1, hd⟩ := ob_bind hd
  refine j_callV (pc := 2) (q0 := 0) (ci := 0) (As := [.int p2]) (rest := []) (st2 := [.int q1]) (ws2 := wd_X0_wrongOf G a_t a_t_deal a_t_foundNothing a_t_way a_p1 a_p1_borrower a_p1_either a_p1_lender a_p1_limit a_p1_year t_size t_deal t_foundNothing t_way p1_persons p1_deals p1_lawYears p1_toldParts a_p1_personNames a_p1_born a_p1_dies a_p1_dealNames a_p1_lenderGain a_p1_borrowerGain a_p1_byYear a_p1_memo p1_borrower p1_either p1_lender p1_limit p1_year) C (ct_X0_wayDone l G a_t a_t_deal a_t_way a_t_foundNothing t_size t_deal t_way p2 q1 eq1) jy_X0_wayDone dX0_wrongOf_2 gX0_wrongOf_X0_wayDone rfl rfl (by decide) ⟨Nat.zero_le _, Nat.zero_le _⟩ [0, 1, 3] rfl rfl (jpt_eq rfl rfl rfl) rfl rfl rfl (Nat.le_of_ble_eq_true rfl) rfl ?_
  refine j_if_eq (pc := 5) (tgt := 10) C dX0_wrongOf_5 (by decide) (fun c2 => ?_) (fun c2 => ?_)
  · have hd := ob_pos c2 hd
    refine j_iload_n (pc := 10) C dX0_wrongOf_10 rfl 3 rfl ?_
    refine j_iconst (pc := 11) (v := 2) C dX0_wrongOf_11 jk_I2 ?_
    refine j_icmp_ne (pc := 12) (tgt := 26) C dX0_wrongOf_12 (by decide) (fun c3 => ?_) (fun c3 => ?_)
    · have hd := ob_neg c3 hd
      refine j_sub (lv2 := [(0, .ref a_t), (1, .ref a_p1), (2, .int p2), (3, .int p3)]) [0, 1, 2, 3] rfl ?_
      obtain ⟨n, hn⟩ := lpC_ex hd
      exact (la_X0_wrongOf l G a_t a_t_deal a_t_foundNothing a_t_way a_p1 a_p1_borrower a_p1_either a_p1_lender a_p1_limit a_p1_year t_size t_deal t_foundNothing t_way p1_persons p1_deals p1_lawYears p1_toldParts a_p1_personNames a_p1_born a_p1_dies a_p1_dealNames a_p1_lenderGain a_p1_borrowerGain a_p1_byYear a_p1_memo p1_borrower p1_either p1_lender p1_limit p1_year p2 p3 X C r hE n).1 () hn
    · have hd := ob_pos c3 hd
      refine j_aload_n (pc := 15) C dX0_wrongOf_15 rfl 1 rfl ?_
      refine j_get (pc := 16) (q0 := 4) (ci := 10) (kf := 14) C dX0_wrongOf_16 in_X0_wrongOf_X10 rfl (by decide) fl_X0_wrongOf_53 rfl rfl ?_
      refine j_iload_n (pc := 19) C dX0_wrongOf_19 rfl 2 rfl ?_
      obtain ⟨h4, hd⟩ := ob_chk hd
      refine j_iald (pc := 20) (q0 := 6) C dX0_wrongOf_20 rfl h4 ?_
      refine j_if_ne (pc := 21) (tgt := 26) C dX0_wrongOf_21 (by decide) (fun c5 => ?_) (fun c5 => ?_)
      · have hd := ob_neg c5 hd
        refine j_sub (lv2 := [(0, .ref a_t), (1, .ref a_p1), (2, .int p2), (3, .int p3)]) [0, 1, 2, 3] rfl ?_
        obtain ⟨n, hn⟩ := lpC_ex hd
        exact (la_X0_wrongOf l G a_t a_t_deal a_t_foundNothing a_t_way a_p1 a_p1_borrower a_p1_either a_p1_lender a_p1_limit a_p1_year t_size t_deal t_foundNothing t_way p1_persons p1_deals p1_lawYears p1_toldParts a_p1_personNames a_p1_born a_p1_dies a_p1_dealNames a_p1_lenderGain a_p1_borrowerGain a_p1_byYear a_p1_memo p1_borrower p1_either p1_lender p1_limit p1_year p2 p3 X C r hE n).1 () hn
      · have hd := ob_pos c5 hd
        refine j_iconst (pc := 24) (v := 2) C dX0_wrongOf_24 jk_I2 ?_
        obtain rfl := Option.some.inj hd
        exact j_iret (pc := 25) C hE dX0_wrongOf_25 rfl rfl
  · have hd := ob_neg c2 hd
    refine j_iconst (pc := 8) (v := 1) C dX0_wrongOf_8 jk_I1 ?_
    obtain rfl := Option.some.inj hd
    exact j_iret (pc := 9) C hE dX0_wrongOf_9 rfl rfl
/-! ##### LendTown$Book.tryDeal(LLendTown$Town;II)I -/
abbrev rm_X0_tryDeal : Room := { frames := 3, cells := 0, slots := 0, locals := 73 }
theorem jy_X0_tryDeal : jY yX0_tryDeal wsX0_tryDeal rm_X0_tryDeal cX0_tryDeal 6 (some .int) 3 := ⟨⟨_, rfl⟩, ⟨rfl, rfl⟩, by decide, by decide, by decide +kernel⟩
theorem in_X0_tryDeal_X0 : ∀ w ∈ u_ws RX0 TX0 4, w ∈ wsX0_tryDeal := fun w h => List.mem_cons_of_mem _ (List.mem_append_left _ (List.mem_append_right _ (h)))
theorem in_X0_tryDeal_X10 : ∀ w ∈ u_ws RX10 TX10 17, w ∈ wsX0_tryDeal := fun w h => List.mem_cons_of_mem _ (List.mem_append_right _ (h))
theorem fl_X0_tryDeal_21 : Cond.fieldLink RX0 21 "LendTown$Book" "size" "I" ∈ wsX0_tryDeal := List.mem_of_getElem? (i := 1) rfl
theorem fl_X0_tryDeal_35 : Cond.fieldLink RX0 35 "LendTown$Town" "lender" "[I" ∈ wsX0_tryDeal := List.mem_of_getElem? (i := 2) rfl
theorem fl_X0_tryDeal_40 : Cond.fieldLink RX0 40 "LendTown$Town" "year" "[I" ∈ wsX0_tryDeal := List.mem_of_getElem? (i := 3) rfl
theorem fl_X0_tryDeal_46 : Cond.fieldLink RX0 46 "LendTown$Town" "borrower" "[I" ∈ wsX0_tryDeal := List.mem_of_getElem? (i := 4) rfl
theorem fl_X0_tryDeal_9 : Cond.fieldLink RX0 9 "LendTown$Book" "deal" "[I" ∈ wsX0_tryDeal := List.mem_of_getElem? (i := 5) rfl
theorem fl_X0_tryDeal_15 : Cond.fieldLink RX0 15 "LendTown$Book" "way" "[I" ∈ wsX0_tryDeal := List.mem_of_getElem? (i := 6) rfl
theorem fl_X0_tryDeal_18 : Cond.fieldLink RX0 18 "LendTown$Book" "foundNothing" "[I" ∈ wsX0_tryDeal := List.mem_of_getElem? (i := 7) rfl
def wd_X0_tryDeal (G : jG) (a_t : Nat) (a_t_deal : Nat) (a_t_foundNothing : Nat) (a_t_way : Nat) (a_p1 : Nat) (a_p1_borrower : Nat) (a_p1_either : Nat) (a_p1_lender : Nat) (a_p1_limit : Nat) (a_p1_year : Nat) (t_size : Int32) (t_deal : Nat → Int32) (t_foundNothing : Nat → Int32) (t_way : Nat → Int32) (p1_persons : Int32) (p1_deals : Int32) (p1_lawYears : Int32) (p1_toldParts : Int32) (a_p1_personNames : Nat) (a_p1_born : Nat) (a_p1_dies : Nat) (a_p1_dealNames : Nat) (a_p1_lenderGain : Nat) (a_p1_borrowerGain : Nat) (a_p1_byYear : Nat) (a_p1_memo : Nat) (p1_borrower : Nat → Int32) (p1_either : Nat → Int32) (p1_lender : Nat → Int32) (p1_limit : Nat → Int32) (p1_year : Nat → Int32) : va_W := [(a_t, .inr (0, [.ref a_t_deal, .ref a_t_way, .ref a_t_foundNothing, .int t_size])), (a_t_deal, .inl (G.2.2.1, 30, .inl t_deal)), (a_t_foundNothing, .inl (G.2.2.1, 30, .inl t_foundNothing)), (a_t_way, .inl (G.2.2.1, 30, .inl t_way)), (a_p1, .inr (10, [.int p1_persons, .int p1_deals, .int p1_lawYears, .int p1_toldParts, .ref a_p1_personNames, .ref a_p1_born, .ref a_p1_dies, .ref a_p1_limit, .ref a_p1_dealNames, .ref a_p1_lender, .ref a_p1_borrower, .ref a_p1_year, .ref a_p1_lenderGain, .ref a_p1_borrowerGain, .ref a_p1_either, .ref a_p1_byYear, .ref a_p1_memo])), (a_p1_borrower, .inl (G.2.2.1, 30, .inl p1_borrower)), (a_p1_either, .inl (G.2.2.1, 30, .inl p1_either)), (a_p1_lender, .inl (G.2.2.1, 30, .inl p1_lender)), (a_p1_limit, .inl (G.2.2.1, 10, .inl p1_limit)), (a_p1_year, .inl (G.2.2.1, 30, .inl p1_year))]
set_option maxHeartbeats 8000000 in
set_option maxRecDepth 100000 in
theorem lb_X0_tryDeal_0 (l : Launch) (G : jG) (a_t : Nat) (a_t_deal : Nat) (a_t_foundNothing : Nat) (a_t_way : Nat) (a_p1 : Nat) (a_p1_borrower : Nat) (a_p1_either : Nat) (a_p1_lender : Nat) (a_p1_limit : Nat) (a_p1_year : Nat) (p1_persons : Int32) (p1_deals : Int32) (p1_lawYears : Int32) (p1_toldParts : Int32) (a_p1_personNames : Nat) (a_p1_born : Nat) (a_p1_dies : Nat) (a_p1_dealNames : Nat) (a_p1_lenderGain : Nat) (a_p1_borrowerGain : Nat) (a_p1_byYear : Nat) (a_p1_memo : Nat) (p1_borrower : Nat → Int32) (p1_either : Nat → Int32) (p1_lender : Nat → Int32) (p1_limit : Nat → Int32) (p1_year : Nat → Int32) (p2 : Int32) (p3 : Int32) (X : jX) (C : jC X l G 6 rm_X0_tryDeal cX0_tryDeal RX0 wsX0_tryDeal) (r : Int32 × (Nat → Int32) × (Nat → Int32) × (Nat → Int32) × Int32) (hE : jE X (some .int) (some (.int r.1)) (wd_X0_tryDeal G a_t a_t_deal a_t_foundNothing a_t_way a_p1 a_p1_borrower a_p1_either a_p1_lender a_p1_limit a_p1_year r.2.2.2.2 r.2.1 r.2.2.2.1 r.2.2.1 p1_persons p1_deals p1_lawYears p1_toldParts a_p1_personNames a_p1_born a_p1_dies a_p1_dealNames a_p1_lenderGain a_p1_borrowerGain a_p1_byYear a_p1_memo p1_borrower p1_either p1_lender p1_limit p1_year)) (n : Nat) (IH1 : ∀ (v5 : Int32) (t_deal : Nat → Int32) (t_way : Nat → Int32) (t_foundNothing : Nat → Int32) (t_size : Int32), lpN (st_X0_tryDeal p1_lawYears p1_borrower p1_lender p1_year p2 p3) n (.inr ((v5, t_deal, t_way, t_foundNothing, t_size))) = some r → J X 0 0 (wd_X0_tryDeal G a_t a_t_deal a_t_foundNothing a_t_way a_p1 a_p1_borrower a_p1_either a_p1_lender a_p1_limit a_p1_year t_size t_deal t_foundNothing t_way p1_persons p1_deals p1_lawYears p1_toldParts a_p1_personNames a_p1_born a_p1_dies a_p1_dealNames a_p1_lenderGain a_p1_borrowerGain a_p1_byYear a_p1_memo p1_borrower p1_either p1_lender p1_limit p1_year) [(0, .ref a_t), (2, .int p2), (3, .int p3), (5, .int v5)] 95 []) (v5 : Int32) (t_deal : Nat → Int32) (t_way : Nat → Int32) (t_foundNothing : Nat → Int32) (t_size : Int32) (hd : lpR (st_X0_tryDeal p1_lawYears p1_borrower p1_lender p1_year p2 p3) n (bd_X0_tryDeal_0 p1_lawYears p1_borrower p1_lender p1_year p2 p3 v5 t_deal t_way t_foundNothing t_size) = some r) : J X 0 0 (wd_X0_tryDeal G a_t a_t_deal a_t_foundNothing a_t_way a_p1 a_p1_borrower a_p1_either a_p1_lender a_p1_limit a_p1_year t_size t_deal t_foundNothing t_way p1_persons p1_deals p1_lawYears p1_toldParts a_p1_personNames a_p1_born a_p1_dies a_p1_dealNames a_p1_lenderGain a_p1_borrowerGain a_p1_byYear a_p1_memo p1_borrower p1_either p1_lender p1_limit p1_year) [(0, .ref a_t), (1, .ref a_p1), (2, .int p2), (3, .int p3), (5, .int v5)] 62 [] := by
  unfold bd_X0_tryDeal_0 at hd
  refine j_aload_n (pc := 62) C dX0_tryDeal_62 rfl 0 rfl ?_
  refine j_aload_n (pc := 63) C dX0_tryDeal_63 rfl 1 rfl ?_
  refine j_aload_n (pc := 64) C dX0_tryDeal_64 rfl 1 rfl ?_
  refine j_get (pc := 65) (q0 := 4) (ci := 10) (kf := 10) C dX0_tryDeal_65 in_X0_tryDeal_X10 rfl (by decide) fl_X0_tryDeal_46 rfl rfl ?_
  refine j_iload_n (pc := 68) C dX0_tryDeal_68 rfl 2 rfl ?_
  obtain ⟨h9, hd⟩ := lp_chk hd
  refine j_iald (pc := 69) (q0 := 5) C dX0_tryDeal_69 rfl h9 ?_
  refine j_aload_n (pc := 70) C dX0_tryDeal_70 rfl 1 rfl ?_
  refine j_get (pc := 71) (q0 := 4) (ci := 10) (kf := 11) C dX0_tryDeal_71 in_X0_tryDeal_X10 rfl (by decide) fl_X0_tryDeal_40 rfl rfl ?_
  refine j_iload_n (pc := 74) C dX0_tryDeal_74 rfl 2 rfl ?_
  obtain ⟨h10, hd⟩ := lp_chk hd
  refine j_iald (pc := 75) (q0 := 9) C dX0_tryDeal_75 rfl h10 ?_
  obtain ⟨q11, eq11, hd⟩ := lp_bind hd
  refine j_callV (pc := 76) (q0 := 0) (ci := 0) (As := [.ref a_p1, .int (p1_borrower (p2).toNatClampNeg), .int (p1_year (p2).toNatClampNeg)]) (rest := []) (st2 := [.int q11]) (ws2 := wd_X0_tryDeal G a_t a_t_deal a_t_foundNothing a_t_way a_p1 a_p1_borrower a_p1_either a_p1_lender a_p1_limit a_p1_year t_size t_deal t_foundNothing t_way p1_persons p1_deals p1_lawYears p1_toldParts a_p1_personNames a_p1_born a_p1_dies a_p1_dealNames a_p1_lenderGain a_p1_borrowerGain a_p1_byYear a_p1_memo p1_borrower p1_either p1_lender p1_limit p1_year) C (ct_X0_whatIs l G a_t a_t_deal a_t_foundNothing a_t_way a_p1 a_p1_borrower a_p1_lender a_p1_year t_size t_deal t_foundNothing t_way p1_persons p1_deals p1_lawYears p1_toldParts a_p1_personNames a_p1_born a_p1_dies a_p1_limit a_p1_dealNames a_p1_lenderGain a_p1_borrowerGain a_p1_either a_p1_byYear a_p1_memo p1_borrower p1_lender p1_year (p1_borrower (p2).toNatClampNeg) (p1_year (p2).toNatClampNeg) q11 eq11) jy_X0_whatIs dX0_tryDeal_76 gX0_tryDeal_X0_whatIs rfl rfl (by decide) ⟨Nat.zero_le _, Nat.zero_le _⟩ [0, 1, 2, 3, 4, 5, 7, 9] rfl rfl (jpt_eq rfl rfl rfl) rfl rfl rfl (Nat.le_of_ble_eq_true rfl) rfl ?_
  refine j_if_ne (pc := 79) (tgt := 95) C dX0_tryDeal_79 (by decide) (fun c12 => ?_) (fun c12 => ?_)
  · have hd := lp_neg c12 hd
    refine j_sub (lv2 := [(0, .ref a_t), (2, .int p2), (3, .int p3), (5, .int v5)]) [0, 2, 3, 4] rfl ?_
    exact IH1 v5 t_deal t_way t_foundNothing t_size hd
  · have hd := lp_pos c12 hd
    refine j_iload (pc := 82) C dX0_tryDeal_82 4 rfl ?_
    refine j_iconst (pc := 84) (v := 1) C dX0_tryDeal_84 jk_I1 ?_
    refine j_aload_n (pc := 85) C dX0_tryDeal_85 rfl 1 rfl ?_
    refine j_get (pc := 86) (q0 := 4) (ci := 10) (kf := 10) C dX0_tryDeal_86 in_X0_tryDeal_X10 rfl (by decide) fl_X0_tryDeal_46 rfl rfl ?_
    refine j_iload_n (pc := 89) C dX0_tryDeal_89 rfl 2 rfl ?_
    obtain ⟨h13, hd⟩ := lp_chk hd
    refine j_iald (pc := 90) (q0 := 5) C dX0_tryDeal_90 rfl h13 ?_
    refine j_ishl (pc := 91) C dX0_tryDeal_91 ?_
    refine j_ior (pc := 92) C dX0_tryDeal_92 ?_
    refine j_istore (pc := 93) (lv2 := [(0, .ref a_t), (2, .int p2), (3, .int p3), (5, .int (v5 ||| ((1 : Int32) <<< ((p1_borrower (p2).toNatClampNeg) &&& 31))))]) C dX0_tryDeal_93 (by decide) [1, 3, 4, 0] rfl ?_
    refine j_sub (lv2 := [(0, .ref a_t), (2, .int p2), (3, .int p3), (5, .int (v5 ||| ((1 : Int32) <<< ((p1_borrower (p2).toNatClampNeg) &&& 31))))]) [0, 1, 2, 3] rfl ?_
    exact IH1 (v5 ||| ((1 : Int32) <<< ((p1_borrower (p2).toNatClampNeg) &&& 31))) t_deal t_way t_foundNothing t_size hd
set_option maxHeartbeats 8000000 in
set_option maxRecDepth 100000 in
theorem lb_X0_tryDeal_1 (l : Launch) (G : jG) (a_t : Nat) (a_t_deal : Nat) (a_t_foundNothing : Nat) (a_t_way : Nat) (a_p1 : Nat) (a_p1_borrower : Nat) (a_p1_either : Nat) (a_p1_lender : Nat) (a_p1_limit : Nat) (a_p1_year : Nat) (p1_persons : Int32) (p1_deals : Int32) (p1_lawYears : Int32) (p1_toldParts : Int32) (a_p1_personNames : Nat) (a_p1_born : Nat) (a_p1_dies : Nat) (a_p1_dealNames : Nat) (a_p1_lenderGain : Nat) (a_p1_borrowerGain : Nat) (a_p1_byYear : Nat) (a_p1_memo : Nat) (p1_borrower : Nat → Int32) (p1_either : Nat → Int32) (p1_lender : Nat → Int32) (p1_limit : Nat → Int32) (p1_year : Nat → Int32) (p2 : Int32) (p3 : Int32) (X : jX) (C : jC X l G 6 rm_X0_tryDeal cX0_tryDeal RX0 wsX0_tryDeal) (r : Int32 × (Nat → Int32) × (Nat → Int32) × (Nat → Int32) × Int32) (hE : jE X (some .int) (some (.int r.1)) (wd_X0_tryDeal G a_t a_t_deal a_t_foundNothing a_t_way a_p1 a_p1_borrower a_p1_either a_p1_lender a_p1_limit a_p1_year r.2.2.2.2 r.2.1 r.2.2.2.1 r.2.2.1 p1_persons p1_deals p1_lawYears p1_toldParts a_p1_personNames a_p1_born a_p1_dies a_p1_dealNames a_p1_lenderGain a_p1_borrowerGain a_p1_byYear a_p1_memo p1_borrower p1_either p1_lender p1_limit p1_year)) (n : Nat)  (v5 : Int32) (t_deal : Nat → Int32) (t_way : Nat → Int32) (t_foundNothing : Nat → Int32) (t_size : Int32) (hd : lpR (st_X0_tryDeal p1_lawYears p1_borrower p1_lender p1_year p2 p3) n (bd_X0_tryDeal_1 p1_lawYears p1_borrower p1_lender p1_year p2 p3 v5 t_deal t_way t_foundNothing t_size) = some r) : J X 0 0 (wd_X0_tryDeal G a_t a_t_deal a_t_foundNothing a_t_way a_p1 a_p1_borrower a_p1_either a_p1_lender a_p1_limit a_p1_year t_size t_deal t_foundNothing t_way p1_persons p1_deals p1_lawYears p1_toldParts a_p1_personNames a_p1_born a_p1_dies a_p1_dealNames a_p1_lenderGain a_p1_borrowerGain a_p1_byYear a_p1_memo p1_borrower p1_either p1_lender p1_limit p1_year) [(0, .ref a_t), (2, .int p2), (3, .int p3), (5, .int v5)] 95 [] := by
  unfold bd_X0_tryDeal_1 at hd
  refine j_aload_n (pc := 95) C dX0_tryDeal_95 rfl 0 rfl ?_
  refine j_get (pc := 96) (q0 := 0) (ci := 0) (kf := 0) C dX0_tryDeal_96 in_X0_tryDeal_X0 rfl (by decide) fl_X0_tryDeal_9 rfl rfl ?_
  refine j_aload_n (pc := 99) C dX0_tryDeal_99 rfl 0 rfl ?_
  refine j_get (pc := 100) (q0 := 0) (ci := 0) (kf := 3) C dX0_tryDeal_100 in_X0_tryDeal_X0 rfl (by decide) fl_X0_tryDeal_21 rfl rfl ?_
  refine j_iload_n (pc := 103) C dX0_tryDeal_103 rfl 1 rfl ?_
  obtain ⟨h14, hd⟩ := lp_chk hd
  refine j_iast (pc := 104) (q0 := 1) (ws2 := wd_X0_tryDeal G a_t a_t_deal a_t_foundNothing a_t_way a_p1 a_p1_borrower a_p1_either a_p1_lender a_p1_limit a_p1_year t_size (upd t_deal (t_size).toNatClampNeg p2) t_foundNothing t_way p1_persons p1_deals p1_lawYears p1_toldParts a_p1_personNames a_p1_born a_p1_dies a_p1_dealNames a_p1_lenderGain a_p1_borrowerGain a_p1_byYear a_p1_memo p1_borrower p1_either p1_lender p1_limit p1_year) C dX0_tryDeal_104 rfl h14 rfl ?_
  refine j_aload_n (pc := 105) C dX0_tryDeal_105 rfl 0 rfl ?_
  refine j_get (pc := 106) (q0 := 0) (ci := 0) (kf := 1) C dX0_tryDeal_106 in_X0_tryDeal_X0 rfl (by decide) fl_X0_tryDeal_15 rfl rfl ?_
  refine j_aload_n (pc := 109) C dX0_tryDeal_109 rfl 0 rfl ?_
  refine j_get (pc := 110) (q0 := 0) (ci := 0) (kf := 3) C dX0_tryDeal_110 in_X0_tryDeal_X0 rfl (by decide) fl_X0_tryDeal_21 rfl rfl ?_
  refine j_iload_n (pc := 113) C dX0_tryDeal_113 rfl 2 rfl ?_
  obtain ⟨h15, hd⟩ := lp_chk hd
  refine j_iast (pc := 114) (q0 := 3) (ws2 := wd_X0_tryDeal G a_t a_t_deal a_t_foundNothing a_t_way a_p1 a_p1_borrower a_p1_either a_p1_lender a_p1_limit a_p1_year t_size (upd t_deal (t_size).toNatClampNeg p2) t_foundNothing (upd t_way (t_size).toNatClampNeg p3) p1_persons p1_deals p1_lawYears p1_toldParts a_p1_personNames a_p1_born a_p1_dies a_p1_dealNames a_p1_lenderGain a_p1_borrowerGain a_p1_byYear a_p1_memo p1_borrower p1_either p1_lender p1_limit p1_year) C dX0_tryDeal_114 rfl h15 rfl ?_
  refine j_aload_n (pc := 115) C dX0_tryDeal_115 rfl 0 rfl ?_
  refine j_get (pc := 116) (q0 := 0) (ci := 0) (kf := 2) C dX0_tryDeal_116 in_X0_tryDeal_X0 rfl (by decide) fl_X0_tryDeal_18 rfl rfl ?_
  refine j_aload_n (pc := 119) C dX0_tryDeal_119 rfl 0 rfl ?_
  refine j_get (pc := 120) (q0 := 0) (ci := 0) (kf := 3) C dX0_tryDeal_120 in_X0_tryDeal_X0 rfl (by decide) fl_X0_tryDeal_21 rfl rfl ?_
  refine j_iload (pc := 123) C dX0_tryDeal_123 3 rfl ?_
  obtain ⟨h16, hd⟩ := lp_chk hd
  refine j_iast (pc := 125) (q0 := 2) (ws2 := wd_X0_tryDeal G a_t a_t_deal a_t_foundNothing a_t_way a_p1 a_p1_borrower a_p1_either a_p1_lender a_p1_limit a_p1_year t_size (upd t_deal (t_size).toNatClampNeg p2) (upd t_foundNothing (t_size).toNatClampNeg v5) (upd t_way (t_size).toNatClampNeg p3) p1_persons p1_deals p1_lawYears p1_toldParts a_p1_personNames a_p1_born a_p1_dies a_p1_dealNames a_p1_lenderGain a_p1_borrowerGain a_p1_byYear a_p1_memo p1_borrower p1_either p1_lender p1_limit p1_year) C dX0_tryDeal_125 rfl h16 rfl ?_
  refine j_aload_n (pc := 126) C dX0_tryDeal_126 rfl 0 rfl ?_
  refine j_dup (pc := 127) C dX0_tryDeal_127 rfl ?_
  refine j_get (pc := 128) (q0 := 0) (ci := 0) (kf := 3) C dX0_tryDeal_128 in_X0_tryDeal_X0 rfl (by decide) fl_X0_tryDeal_21 rfl rfl ?_
  refine j_iconst (pc := 131) (v := 1) C dX0_tryDeal_131 jk_I1 ?_
  refine j_iadd (pc := 132) C dX0_tryDeal_132 ?_
  refine j_put (pc := 133) (q0 := 0) (ci := 0) (kf := 3) (ws2 := wd_X0_tryDeal G a_t a_t_deal a_t_foundNothing a_t_way a_p1 a_p1_borrower a_p1_either a_p1_lender a_p1_limit a_p1_year (t_size + 1) (upd t_deal (t_size).toNatClampNeg p2) (upd t_foundNothing (t_size).toNatClampNeg v5) (upd t_way (t_size).toNatClampNeg p3) p1_persons p1_deals p1_lawYears p1_toldParts a_p1_personNames a_p1_born a_p1_dies a_p1_dealNames a_p1_lenderGain a_p1_borrowerGain a_p1_byYear a_p1_memo p1_borrower p1_either p1_lender p1_limit p1_year) C dX0_tryDeal_133 in_X0_tryDeal_X0 tyX0 tyX0_ok nmX0 rfl (by decide) fl_X0_tryDeal_21 rfl rfl rfl rfl (Nat.le_of_ble_eq_true rfl) rfl ?_
  refine j_iconst (pc := 136) (v := 0) C dX0_tryDeal_136 jk_I0 ?_
  obtain rfl := Option.some.inj hd
  exact j_iret (pc := 137) C hE dX0_tryDeal_137 rfl rfl
set_option maxHeartbeats 8000000 in
set_option maxRecDepth 100000 in
theorem la_X0_tryDeal (l : Launch) (G : jG) (a_t : Nat) (a_t_deal : Nat) (a_t_foundNothing : Nat) (a_t_way : Nat) (a_p1 : Nat) (a_p1_borrower : Nat) (a_p1_either : Nat) (a_p1_lender : Nat) (a_p1_limit : Nat) (a_p1_year : Nat) (p1_persons : Int32) (p1_deals : Int32) (p1_lawYears : Int32) (p1_toldParts : Int32) (a_p1_personNames : Nat) (a_p1_born : Nat) (a_p1_dies : Nat) (a_p1_dealNames : Nat) (a_p1_lenderGain : Nat) (a_p1_borrowerGain : Nat) (a_p1_byYear : Nat) (a_p1_memo : Nat) (p1_borrower : Nat → Int32) (p1_either : Nat → Int32) (p1_lender : Nat → Int32) (p1_limit : Nat → Int32) (p1_year : Nat → Int32) (p2 : Int32) (p3 : Int32) (X : jX) (C : jC X l G 6 rm_X0_tryDeal cX0_tryDeal RX0 wsX0_tryDeal) (r : Int32 × (Nat → Int32) × (Nat → Int32) × (Nat → Int32) × Int32) (hE : jE X (some .int) (some (.int r.1)) (wd_X0_tryDeal G a_t a_t_deal a_t_foundNothing a_t_way a_p1 a_p1_borrower a_p1_either a_p1_lender a_p1_limit a_p1_year r.2.2.2.2 r.2.1 r.2.2.2.1 r.2.2.1 p1_persons p1_deals p1_lawYears p1_toldParts a_p1_personNames a_p1_born a_p1_dies a_p1_dealNames a_p1_lenderGain a_p1_borrowerGain a_p1_byYear a_p1_memo p1_borrower p1_either p1_lender p1_limit p1_year)) (n : Nat) : (∀ (v5 : Int32) (t_deal : Nat → Int32) (t_way : Nat → Int32) (t_foundNothing : Nat → Int32) (t_size : Int32), lpN (st_X0_tryDeal p1_lawYears p1_borrower p1_lender p1_year p2 p3) n (.inl (v5, t_deal, t_way, t_foundNothing, t_size)) = some r → J X 0 0 (wd_X0_tryDeal G a_t a_t_deal a_t_foundNothing a_t_way a_p1 a_p1_borrower a_p1_either a_p1_lender a_p1_limit a_p1_year t_size t_deal t_foundNothing t_way p1_persons p1_deals p1_lawYears p1_toldParts a_p1_personNames a_p1_born a_p1_dies a_p1_dealNames a_p1_lenderGain a_p1_borrowerGain a_p1_byYear a_p1_memo p1_borrower p1_either p1_lender p1_limit p1_year) [(0, .ref a_t), (1, .ref a_p1), (2, .int p2), (3, .int p3), (5, .int v5)] 62 []) ∧ (∀ (v5 : Int32) (t_deal : Nat → Int32) (t_way : Nat → Int32) (t_foundNothing : Nat → Int32) (t_size : Int32), lpN (st_X0_tryDeal p1_lawYears p1_borrower p1_lender p1_year p2 p3) n (.inr ((v5, t_deal, t_way, t_foundNothing, t_size))) = some r → J X 0 0 (wd_X0_tryDeal G a_t a_t_deal a_t_foundNothing a_t_way a_p1 a_p1_borrower a_p1_either a_p1_lender a_p1_limit a_p1_year t_size t_deal t_foundNothing t_way p1_persons p1_deals p1_lawYears p1_toldParts a_p1_personNames a_p1_born a_p1_dies a_p1_dealNames a_p1_lenderGain a_p1_borrowerGain a_p1_byYear a_p1_memo p1_borrower p1_either p1_lender p1_limit p1_year) [(0, .ref a_t), (2, .int p2), (3, .int p3), (5, .int v5)] 95 []) := by
  induction n with
  | zero => exact ⟨(fun v5 t_deal t_way t_foundNothing t_size h => by cases h), (fun v5 t_deal t_way t_foundNothing t_size h => by cases h)⟩
  | succ n ih => exact ⟨(fun v5 t_deal t_way t_foundNothing t_size h => lb_X0_tryDeal_0 l G a_t a_t_deal a_t_foundNothing a_t_way a_p1 a_p1_borrower a_p1_either a_p1_lender a_p1_limit a_p1_year p1_persons p1_deals p1_lawYears p1_toldParts a_p1_personNames a_p1_born a_p1_dies a_p1_dealNames a_p1_lenderGain a_p1_borrowerGain a_p1_byYear a_p1_memo p1_borrower p1_either p1_lender p1_limit p1_year p2 p3 X C r hE n (ih.2) v5 t_deal t_way t_foundNothing t_size (by rw [lpN_succ] at h; exact h)), (fun v5 t_deal t_way t_foundNothing t_size h => lb_X0_tryDeal_1 l G a_t a_t_deal a_t_foundNothing a_t_way a_p1 a_p1_borrower a_p1_either a_p1_lender a_p1_limit a_p1_year p1_persons p1_deals p1_lawYears p1_toldParts a_p1_personNames a_p1_born a_p1_dies a_p1_dealNames a_p1_lenderGain a_p1_borrowerGain a_p1_byYear a_p1_memo p1_borrower p1_either p1_lender p1_limit p1_year p2 p3 X C r hE n  v5 t_deal t_way t_foundNothing t_size (by rw [lpN_succ] at h; exact h))⟩
set_option maxHeartbeats 8000000 in
set_option maxRecDepth 100000 in
theorem ct_X0_tryDeal (l : Launch) (G : jG) (a_t : Nat) (a_t_deal : Nat) (a_t_foundNothing : Nat) (a_t_way : Nat) (a_p1 : Nat) (a_p1_borrower : Nat) (a_p1_either : Nat) (a_p1_lender : Nat) (a_p1_limit : Nat) (a_p1_year : Nat) (t_size : Int32) (t_deal : Nat → Int32) (t_foundNothing : Nat → Int32) (t_way : Nat → Int32) (p1_persons : Int32) (p1_deals : Int32) (p1_lawYears : Int32) (p1_toldParts : Int32) (a_p1_personNames : Nat) (a_p1_born : Nat) (a_p1_dies : Nat) (a_p1_dealNames : Nat) (a_p1_lenderGain : Nat) (a_p1_borrowerGain : Nat) (a_p1_byYear : Nat) (a_p1_memo : Nat) (p1_borrower : Nat → Int32) (p1_either : Nat → Int32) (p1_lender : Nat → Int32) (p1_limit : Nat → Int32) (p1_year : Nat → Int32) (p2 : Int32) (p3 : Int32) (r : Int32 × (Nat → Int32) × (Nat → Int32) × (Nat → Int32) × Int32) (hd : dn_X0_tryDeal t_size t_deal t_foundNothing t_way p1_lawYears p1_borrower p1_either p1_lender p1_limit p1_year p2 p3 = some r) : jM l G yX0_tryDeal wsX0_tryDeal rm_X0_tryDeal [.ref a_t, .ref a_p1, .int p2, .int p3] (wd_X0_tryDeal G a_t a_t_deal a_t_foundNothing a_t_way a_p1 a_p1_borrower a_p1_either a_p1_lender a_p1_limit a_p1_year t_size t_deal t_foundNothing t_way p1_persons p1_deals p1_lawYears p1_toldParts a_p1_personNames a_p1_born a_p1_dies a_p1_dealNames a_p1_lenderGain a_p1_borrowerGain a_p1_byYear a_p1_memo p1_borrower p1_either p1_lender p1_limit p1_year) (some (.int r.1)) (wd_X0_tryDeal G a_t a_t_deal a_t_foundNothing a_t_way a_p1 a_p1_borrower a_p1_either a_p1_lender a_p1_limit a_p1_year r.2.2.2.2 r.2.1 r.2.2.2.1 r.2.2.1 p1_persons p1_deals p1_lawYears p1_toldParts a_p1_personNames a_p1_born a_p1_dies a_p1_dealNames a_p1_lenderGain a_p1_borrowerGain a_p1_byYear a_p1_memo p1_borrower p1_either p1_lender p1_limit p1_year) := by
  refine jM_of (own := RX0) (by decide) rfl rfl rfl (Nat.le_of_ble_eq_true rfl) (lv0 := [(0, .ref a_t), (1, .ref a_p1), (2, .int p2), (3, .int p3)]) rfl (fun X C hE => ?_)
  unfold dn_X0_tryDeal at hd
  refine j_aload_n (pc := 0) C dX0_tryDeal_0 rfl 0 rfl ?_
  refine j_aload_n (pc := 1) C dX0_tryDeal_1 rfl 1 rfl ?_
  refine j_iload_n (pc := 2) C dX0_tryDeal_2 rfl 2 rfl ?_
  refine j_iload_n (pc := 3) C dX0_tryDeal_3 rfl 3 rfl ?_
  obtain ⟨q1, eq1, hd⟩ := ob_bind hd
  refine j_callV (pc := 4) (q0 := 0) (ci := 0) (As := [.ref a_p1, .int p2, .int p3]) (rest := []) (st2 := [.int q1]) (ws2 := wd_X0_tryDeal G a_t a_t_deal a_t_foundNothing a_t_way a_p1 a_p1_borrower a_p1_either a_p1_lender a_p1_limit a_p1_year t_size t_deal t_foundNothing t_way p1_persons p1_deals p1_lawYears p1_toldParts a_p1_personNames a_p1_born a_p1_dies a_p1_dealNames a_p1_lenderGain a_p1_borrowerGain a_p1_byYear a_p1_memo p1_borrower p1_either p1_lender p1_limit p1_year) C (ct_X0_wrongOf l G a_t a_t_deal a_t_foundNothing a_t_way a_p1 a_p1_borrower a_p1_either a_p1_lender a_p1_limit a_p1_year t_size t_deal t_foundNothing t_way p1_persons p1_deals p1_lawYears p1_toldParts a_p1_personNames a_p1_born a_p1_dies a_p1_dealNames a_p1_lenderGain a_p1_borrowerGain a_p1_byYear a_p1_memo p1_borrower p1_either p1_lender p1_limit p1_year p2 p3 q1 eq1) jy_X0_wrongOf dX0_tryDeal_4 gX0_tryDeal_X0_wrongOf rfl rfl (by decide) ⟨Nat.zero_le _, Nat.zero_le _⟩ [0, 1, 2, 3, 4, 5, 6, 7, 8, 9] rfl rfl (jpt_eq rfl rfl rfl) rfl rfl rfl (Nat.le_of_ble_eq_true rfl) rfl ?_
  refine j_istore (pc := 7) (lv2 := [(0, .ref a_t), (1, .ref a_p1), (2, .int p2), (3, .int p3), (4, .int q1)]) C dX0_tryDeal_7 (by decide) [1, 2, 3, 4, 0] rfl ?_
  refine j_iload (pc := 9) C dX0_tryDeal_9 4 rfl ?_
  refine j_if_ne (pc := 11) (tgt := 23) C dX0_tryDeal_11 (by decide) (fun c2 => ?_) (fun c2 => ?_)
  · have hd := ob_neg c2 hd
    refine j_iload (pc := 23) C dX0_tryDeal_23 4 rfl ?_
    obtain rfl := Option.some.inj hd
    exact j_iret (pc := 25) C hE dX0_tryDeal_25 rfl rfl
  · have hd := ob_pos c2 hd
    refine j_aload_n (pc := 14) C dX0_tryDeal_14 rfl 0 rfl ?_
    refine j_get (pc := 15) (q0 := 0) (ci := 0) (kf := 3) C dX0_tryDeal_15 in_X0_tryDeal_X0 rfl (by decide) fl_X0_tryDeal_21 rfl rfl ?_
    refine j_bipush (pc := 18) (v := 30) C dX0_tryDeal_18 jk_B30 ?_
    refine j_icmp_lt (pc := 20) (tgt := 26) C dX0_tryDeal_20 (by decide) (fun c3 => ?_) (fun c3 => ?_)
    · have hd := ob_pos c3 hd
      refine j_iconst (pc := 26) (v := 0) C dX0_tryDeal_26 jk_I0 ?_
      refine j_istore (pc := 27) (lv2 := [(0, .ref a_t), (1, .ref a_p1), (2, .int p2), (3, .int p3), (5, .int 0)]) C dX0_tryDeal_27 (by decide) [1, 2, 3, 4, 0] rfl ?_
      refine j_aload_n (pc := 29) C dX0_tryDeal_29 rfl 0 rfl ?_
      refine j_aload_n (pc := 30) C dX0_tryDeal_30 rfl 1 rfl ?_
      refine j_aload_n (pc := 31) C dX0_tryDeal_31 rfl 1 rfl ?_
      refine j_get (pc := 32) (q0 := 4) (ci := 10) (kf := 9) C dX0_tryDeal_32 in_X0_tryDeal_X10 rfl (by decide) fl_X0_tryDeal_35 rfl rfl ?_
      refine j_iload_n (pc := 35) C dX0_tryDeal_35 rfl 2 rfl ?_
      obtain ⟨h4, hd⟩ := ob_chk hd
      refine j_iald (pc := 36) (q0 := 7) C dX0_tryDeal_36 rfl h4 ?_
      refine j_aload_n (pc := 37) C dX0_tryDeal_37 rfl 1 rfl ?_
      refine j_get (pc := 38) (q0 := 4) (ci := 10) (kf := 11) C dX0_tryDeal_38 in_X0_tryDeal_X10 rfl (by decide) fl_X0_tryDeal_40 rfl rfl ?_
      refine j_iload_n (pc := 41) C dX0_tryDeal_41 rfl 2 rfl ?_
      obtain ⟨h5, hd⟩ := ob_chk hd
      refine j_iald (pc := 42) (q0 := 9) C dX0_tryDeal_42 rfl h5 ?_
      obtain ⟨q6, eq6, hd⟩ := ob_bind hd
      refine j_callV (pc := 43) (q0 := 0) (ci := 0) (As := [.ref a_p1, .int (p1_lender (p2).toNatClampNeg), .int (p1_year (p2).toNatClampNeg)]) (rest := []) (st2 := [.int q6]) (ws2 := wd_X0_tryDeal G a_t a_t_deal a_t_foundNothing a_t_way a_p1 a_p1_borrower a_p1_either a_p1_lender a_p1_limit a_p1_year t_size t_deal t_foundNothing t_way p1_persons p1_deals p1_lawYears p1_toldParts a_p1_personNames a_p1_born a_p1_dies a_p1_dealNames a_p1_lenderGain a_p1_borrowerGain a_p1_byYear a_p1_memo p1_borrower p1_either p1_lender p1_limit p1_year) C (ct_X0_whatIs l G a_t a_t_deal a_t_foundNothing a_t_way a_p1 a_p1_borrower a_p1_lender a_p1_year t_size t_deal t_foundNothing t_way p1_persons p1_deals p1_lawYears p1_toldParts a_p1_personNames a_p1_born a_p1_dies a_p1_limit a_p1_dealNames a_p1_lenderGain a_p1_borrowerGain a_p1_either a_p1_byYear a_p1_memo p1_borrower p1_lender p1_year (p1_lender (p2).toNatClampNeg) (p1_year (p2).toNatClampNeg) q6 eq6) jy_X0_whatIs dX0_tryDeal_43 gX0_tryDeal_X0_whatIs rfl rfl (by decide) ⟨Nat.zero_le _, Nat.zero_le _⟩ [0, 1, 2, 3, 4, 5, 7, 9] rfl rfl (jpt_eq rfl rfl rfl) rfl rfl rfl (Nat.le_of_ble_eq_true rfl) rfl ?_
      refine j_if_ne (pc := 46) (tgt := 62) C dX0_tryDeal_46 (by decide) (fun c7 => ?_) (fun c7 => ?_)
      · have hd := ob_neg c7 hd
        refine j_sub (lv2 := [(0, .ref a_t), (1, .ref a_p1), (2, .int p2), (3, .int p3), (5, .int 0)]) [0, 1, 2, 3, 4] rfl ?_
        obtain ⟨n, hn⟩ := lpC_ex hd
        exact (la_X0_tryDeal l G a_t a_t_deal a_t_foundNothing a_t_way a_p1 a_p1_borrower a_p1_either a_p1_lender a_p1_limit a_p1_year p1_persons p1_deals p1_lawYears p1_toldParts a_p1_personNames a_p1_born a_p1_dies a_p1_dealNames a_p1_lenderGain a_p1_borrowerGain a_p1_byYear a_p1_memo p1_borrower p1_either p1_lender p1_limit p1_year p2 p3 X C r hE n).1 0 t_deal t_way t_foundNothing t_size hn
      · have hd := ob_pos c7 hd
        refine j_iload (pc := 49) C dX0_tryDeal_49 4 rfl ?_
        refine j_iconst (pc := 51) (v := 1) C dX0_tryDeal_51 jk_I1 ?_
        refine j_aload_n (pc := 52) C dX0_tryDeal_52 rfl 1 rfl ?_
        refine j_get (pc := 53) (q0 := 4) (ci := 10) (kf := 9) C dX0_tryDeal_53 in_X0_tryDeal_X10 rfl (by decide) fl_X0_tryDeal_35 rfl rfl ?_
        refine j_iload_n (pc := 56) C dX0_tryDeal_56 rfl 2 rfl ?_
        obtain ⟨h8, hd⟩ := ob_chk hd
        refine j_iald (pc := 57) (q0 := 7) C dX0_tryDeal_57 rfl h8 ?_
        refine j_ishl (pc := 58) C dX0_tryDeal_58 ?_
        refine j_ior (pc := 59) C dX0_tryDeal_59 ?_
        refine j_istore (pc := 60) (lv2 := [(0, .ref a_t), (1, .ref a_p1), (2, .int p2), (3, .int p3), (5, .int ((0 : Int32) ||| ((1 : Int32) <<< ((p1_lender (p2).toNatClampNeg) &&& 31))))]) C dX0_tryDeal_60 (by decide) [1, 2, 3, 4, 0] rfl ?_
        refine j_sub (lv2 := [(0, .ref a_t), (1, .ref a_p1), (2, .int p2), (3, .int p3), (5, .int ((0 : Int32) ||| ((1 : Int32) <<< ((p1_lender (p2).toNatClampNeg) &&& 31))))]) [0, 1, 2, 3, 4] rfl ?_
        obtain ⟨n, hn⟩ := lpC_ex hd
        exact (la_X0_tryDeal l G a_t a_t_deal a_t_foundNothing a_t_way a_p1 a_p1_borrower a_p1_either a_p1_lender a_p1_limit a_p1_year p1_persons p1_deals p1_lawYears p1_toldParts a_p1_personNames a_p1_born a_p1_dies a_p1_dealNames a_p1_lenderGain a_p1_borrowerGain a_p1_byYear a_p1_memo p1_borrower p1_either p1_lender p1_limit p1_year p2 p3 X C r hE n).1 ((0 : Int32) ||| ((1 : Int32) <<< ((p1_lender (p2).toNatClampNeg) &&& 31))) t_deal t_way t_foundNothing t_size hn
    · have hd := ob_neg c3 hd
      refine j_iload (pc := 23) C dX0_tryDeal_23 4 rfl ?_
      obtain rfl := Option.some.inj hd
      exact j_iret (pc := 25) C hE dX0_tryDeal_25 rfl rfl
/-! ##### LendTown$Book.dropLast()V -/
abbrev rm_X0_dropLast : Room := { frames := 0, cells := 0, slots := 0, locals := 0 }
theorem jy_X0_dropLast : jY yX0_dropLast wsX0_dropLast rm_X0_dropLast cX0_dropLast 1 none 0 := ⟨⟨_, rfl⟩, ⟨rfl, rfl⟩, by decide, by decide, by decide +kernel⟩
theorem in_X0_dropLast_X0 : ∀ w ∈ u_ws RX0 TX0 4, w ∈ wsX0_dropLast := fun w h => List.mem_cons_of_mem _ (List.mem_append_right _ (h))
theorem fl_X0_dropLast_21 : Cond.fieldLink RX0 21 "LendTown$Book" "size" "I" ∈ wsX0_dropLast := List.mem_of_getElem? (i := 1) rfl
def wd_X0_dropLast (G : jG) (a_t : Nat) (a_t_deal : Nat) (a_t_way : Nat) (a_t_foundNothing : Nat) (t_size : Int32) : va_W := [(a_t, .inr (0, [.ref a_t_deal, .ref a_t_way, .ref a_t_foundNothing, .int t_size]))]
set_option maxHeartbeats 8000000 in
set_option maxRecDepth 100000 in
theorem ct_X0_dropLast (l : Launch) (G : jG) (a_t : Nat) (a_t_deal : Nat) (a_t_way : Nat) (a_t_foundNothing : Nat) (t_size : Int32)  (r : Int32) (hd : dn_X0_dropLast t_size = some r) : jM l G yX0_dropLast wsX0_dropLast rm_X0_dropLast [.ref a_t] (wd_X0_dropLast G a_t a_t_deal a_t_way a_t_foundNothing t_size) none (wd_X0_dropLast G a_t a_t_deal a_t_way a_t_foundNothing r) := by
  refine jM_of (own := RX0) (by decide) rfl rfl rfl (Nat.le_of_ble_eq_true rfl) (lv0 := [(0, .ref a_t)]) rfl (fun X C hE => ?_)
  unfold dn_X0_dropLast at hd
  refine j_aload_n (pc := 0) C dX0_dropLast_0 rfl 0 rfl ?_
  refine j_get (pc := 1) (q0 := 0) (ci := 0) (kf := 3) C dX0_dropLast_1 in_X0_dropLast_X0 rfl (by decide) fl_X0_dropLast_21 rfl rfl ?_
  refine j_if_le (pc := 4) (tgt := 17) C dX0_dropLast_4 (by decide) (fun c1 => ?_) (fun c1 => ?_)
  · have hd := ob_pos c1 hd
    obtain rfl := Option.some.inj hd
    exact j_vret (pc := 17) C hE dX0_dropLast_17 rfl rfl
  · have hd := ob_neg c1 hd
    refine j_aload_n (pc := 7) C dX0_dropLast_7 rfl 0 rfl ?_
    refine j_dup (pc := 8) C dX0_dropLast_8 rfl ?_
    refine j_get (pc := 9) (q0 := 0) (ci := 0) (kf := 3) C dX0_dropLast_9 in_X0_dropLast_X0 rfl (by decide) fl_X0_dropLast_21 rfl rfl ?_
    refine j_iconst (pc := 12) (v := 1) C dX0_dropLast_12 jk_I1 ?_
    refine j_isub (pc := 13) C dX0_dropLast_13 ?_
    refine j_put (pc := 14) (q0 := 0) (ci := 0) (kf := 3) (ws2 := wd_X0_dropLast G a_t a_t_deal a_t_way a_t_foundNothing (t_size - 1)) C dX0_dropLast_14 in_X0_dropLast_X0 tyX0 tyX0_ok nmX0 rfl (by decide) fl_X0_dropLast_21 rfl rfl rfl rfl (Nat.le_of_ble_eq_true rfl) rfl ?_
    obtain rfl := Option.some.inj hd
    exact j_vret (pc := 17) C hE dX0_dropLast_17 rfl rfl
/-! ##### LendTown$Book.sharesOf(LLendTown$Town;I)I -/
abbrev rm_X0_sharesOf : Room := { frames := 1, cells := 0, slots := 0, locals := 22 }
theorem jy_X0_sharesOf : jY yX0_sharesOf wsX0_sharesOf rm_X0_sharesOf cX0_sharesOf 5 (some .int) 2 := ⟨⟨_, rfl⟩, ⟨rfl, rfl⟩, by decide, by decide, by decide +kernel⟩
theorem in_X0_sharesOf_X0 : ∀ w ∈ u_ws RX0 TX0 4, w ∈ wsX0_sharesOf := fun w h => List.mem_cons_of_mem _ (List.mem_append_left _ (List.mem_append_right _ (h)))
theorem fl_X0_sharesOf_21 : Cond.fieldLink RX0 21 "LendTown$Book" "size" "I" ∈ wsX0_sharesOf := List.mem_of_getElem? (i := 1) rfl
theorem fl_X0_sharesOf_9 : Cond.fieldLink RX0 9 "LendTown$Book" "deal" "[I" ∈ wsX0_sharesOf := List.mem_of_getElem? (i := 2) rfl
def wd_X0_sharesOf (G : jG) (a_t : Nat) (a_t_deal : Nat) (a_p1 : Nat) (a_p1_borrower : Nat) (a_p1_borrowerGain : Nat) (a_p1_lender : Nat) (a_p1_lenderGain : Nat) (a_t_way : Nat) (a_t_foundNothing : Nat) (t_size : Int32) (t_deal : Nat → Int32) (p1_persons : Int32) (p1_deals : Int32) (p1_lawYears : Int32) (p1_toldParts : Int32) (a_p1_personNames : Nat) (a_p1_born : Nat) (a_p1_dies : Nat) (a_p1_limit : Nat) (a_p1_dealNames : Nat) (a_p1_year : Nat) (a_p1_either : Nat) (a_p1_byYear : Nat) (a_p1_memo : Nat) (p1_borrower : Nat → Int32) (p1_borrowerGain : Nat → Int32) (p1_lender : Nat → Int32) (p1_lenderGain : Nat → Int32) : va_W := [(a_t, .inr (0, [.ref a_t_deal, .ref a_t_way, .ref a_t_foundNothing, .int t_size])), (a_t_deal, .inl (G.2.2.1, 30, .inl t_deal)), (a_p1, .inr (10, [.int p1_persons, .int p1_deals, .int p1_lawYears, .int p1_toldParts, .ref a_p1_personNames, .ref a_p1_born, .ref a_p1_dies, .ref a_p1_limit, .ref a_p1_dealNames, .ref a_p1_lender, .ref a_p1_borrower, .ref a_p1_year, .ref a_p1_lenderGain, .ref a_p1_borrowerGain, .ref a_p1_either, .ref a_p1_byYear, .ref a_p1_memo])), (a_p1_borrower, .inl (G.2.2.1, 30, .inl p1_borrower)), (a_p1_borrowerGain, .inl (G.2.2.1, 30, .inl p1_borrowerGain)), (a_p1_lender, .inl (G.2.2.1, 30, .inl p1_lender)), (a_p1_lenderGain, .inl (G.2.2.1, 30, .inl p1_lenderGain))]
set_option maxHeartbeats 8000000 in
set_option maxRecDepth 100000 in
theorem lb_X0_sharesOf_0 (l : Launch) (G : jG) (a_t : Nat) (a_t_deal : Nat) (a_p1 : Nat) (a_p1_borrower : Nat) (a_p1_borrowerGain : Nat) (a_p1_lender : Nat) (a_p1_lenderGain : Nat) (a_t_way : Nat) (a_t_foundNothing : Nat) (t_size : Int32) (t_deal : Nat → Int32) (p1_persons : Int32) (p1_deals : Int32) (p1_lawYears : Int32) (p1_toldParts : Int32) (a_p1_personNames : Nat) (a_p1_born : Nat) (a_p1_dies : Nat) (a_p1_limit : Nat) (a_p1_dealNames : Nat) (a_p1_year : Nat) (a_p1_either : Nat) (a_p1_byYear : Nat) (a_p1_memo : Nat) (p1_borrower : Nat → Int32) (p1_borrowerGain : Nat → Int32) (p1_lender : Nat → Int32) (p1_lenderGain : Nat → Int32) (p2 : Int32) (X : jX) (C : jC X l G 5 rm_X0_sharesOf cX0_sharesOf RX0 wsX0_sharesOf) (r : Int32) (hE : jE X (some .int) (some (.int r)) (wd_X0_sharesOf G a_t a_t_deal a_p1 a_p1_borrower a_p1_borrowerGain a_p1_lender a_p1_lenderGain a_t_way a_t_foundNothing t_size t_deal p1_persons p1_deals p1_lawYears p1_toldParts a_p1_personNames a_p1_born a_p1_dies a_p1_limit a_p1_dealNames a_p1_year a_p1_either a_p1_byYear a_p1_memo p1_borrower p1_borrowerGain p1_lender p1_lenderGain)) (n : Nat) (IH0 : ∀ (v3 : Int32) (v4 : Int32), lpN (st_X0_sharesOf t_size t_deal p1_borrower p1_borrowerGain p1_lender p1_lenderGain p2) n ((v3, v4)) = some r → J X 0 0 (wd_X0_sharesOf G a_t a_t_deal a_p1 a_p1_borrower a_p1_borrowerGain a_p1_lender a_p1_lenderGain a_t_way a_t_foundNothing t_size t_deal p1_persons p1_deals p1_lawYears p1_toldParts a_p1_personNames a_p1_born a_p1_dies a_p1_limit a_p1_dealNames a_p1_year a_p1_either a_p1_byYear a_p1_memo p1_borrower p1_borrowerGain p1_lender p1_lenderGain) [(0, .ref a_t), (1, .ref a_p1), (2, .int p2), (3, .int v3), (4, .int v4)] 5 []) (v3 : Int32) (v4 : Int32) (hd : lpR (st_X0_sharesOf t_size t_deal p1_borrower p1_borrowerGain p1_lender p1_lenderGain p2) n (bd_X0_sharesOf_0 t_size t_deal p1_borrower p1_borrowerGain p1_lender p1_lenderGain p2 v3 v4) = some r) : J X 0 0 (wd_X0_sharesOf G a_t a_t_deal a_p1 a_p1_borrower a_p1_borrowerGain a_p1_lender a_p1_lenderGain a_t_way a_t_foundNothing t_size t_deal p1_persons p1_deals p1_lawYears p1_toldParts a_p1_personNames a_p1_born a_p1_dies a_p1_limit a_p1_dealNames a_p1_year a_p1_either a_p1_byYear a_p1_memo p1_borrower p1_borrowerGain p1_lender p1_lenderGain) [(0, .ref a_t), (1, .ref a_p1), (2, .int p2), (3, .int v3), (4, .int v4)] 5 [] := by
  unfold bd_X0_sharesOf_0 at hd
  refine j_iload (pc := 5) C dX0_sharesOf_5 4 rfl ?_
  refine j_aload_n (pc := 7) C dX0_sharesOf_7 rfl 0 rfl ?_
  refine j_get (pc := 8) (q0 := 0) (ci := 0) (kf := 3) C dX0_sharesOf_8 in_X0_sharesOf_X0 rfl (by decide) fl_X0_sharesOf_21 rfl rfl ?_
  refine j_icmp_ge (pc := 11) (tgt := 35) C dX0_sharesOf_11 (by decide) (fun c1 => ?_) (fun c1 => ?_)
  · have hd := lp_pos c1 hd
    refine j_iload_n (pc := 35) C dX0_sharesOf_35 rfl 3 rfl ?_
    obtain rfl := Option.some.inj hd
    exact j_iret (pc := 36) C hE dX0_sharesOf_36 rfl rfl
  · have hd := lp_neg c1 hd
    refine j_iload_n (pc := 14) C dX0_sharesOf_14 rfl 3 rfl ?_
    refine j_aload_n (pc := 15) C dX0_sharesOf_15 rfl 1 rfl ?_
    refine j_aload_n (pc := 16) C dX0_sharesOf_16 rfl 0 rfl ?_
    refine j_get (pc := 17) (q0 := 0) (ci := 0) (kf := 0) C dX0_sharesOf_17 in_X0_sharesOf_X0 rfl (by decide) fl_X0_sharesOf_9 rfl rfl ?_
    refine j_iload (pc := 20) C dX0_sharesOf_20 4 rfl ?_
    obtain ⟨h2, hd⟩ := lp_chk hd
    refine j_iald (pc := 22) (q0 := 1) C dX0_sharesOf_22 rfl h2 ?_
    refine j_iload_n (pc := 23) C dX0_sharesOf_23 rfl 2 rfl ?_
    obtain ⟨q3, eq3, hd⟩ := lp_bind hd
    refine j_callV (pc := 24) (q0 := 2) (ci := 10) (As := [.int (t_deal (v4).toNatClampNeg), .int p2]) (rest := [.int v3]) (st2 := [.int q3, .int v3]) (ws2 := wd_X0_sharesOf G a_t a_t_deal a_p1 a_p1_borrower a_p1_borrowerGain a_p1_lender a_p1_lenderGain a_t_way a_t_foundNothing t_size t_deal p1_persons p1_deals p1_lawYears p1_toldParts a_p1_personNames a_p1_born a_p1_dies a_p1_limit a_p1_dealNames a_p1_year a_p1_either a_p1_byYear a_p1_memo p1_borrower p1_borrowerGain p1_lender p1_lenderGain) C (ct_X10_shareOf l G a_p1 a_p1_borrower a_p1_borrowerGain a_p1_lender a_p1_lenderGain p1_persons p1_deals p1_lawYears p1_toldParts a_p1_personNames a_p1_born a_p1_dies a_p1_limit a_p1_dealNames a_p1_year a_p1_either a_p1_byYear a_p1_memo p1_borrower p1_borrowerGain p1_lender p1_lenderGain (t_deal (v4).toNatClampNeg) p2 q3 eq3) jy_X10_shareOf dX0_sharesOf_24 gX0_sharesOf_X10_shareOf rfl rfl (by decide) ⟨Nat.zero_le _, Nat.zero_le _⟩ [2, 3, 4, 5, 6] rfl rfl (jpt_eq rfl rfl rfl) rfl rfl rfl (Nat.le_of_ble_eq_true rfl) rfl ?_
    refine j_iadd (pc := 27) C dX0_sharesOf_27 ?_
    refine j_istore_n (pc := 28) (lv2 := [(0, .ref a_t), (1, .ref a_p1), (2, .int p2), (3, .int (v3 + q3)), (4, .int v4)]) C dX0_sharesOf_28 rfl (by decide) [1, 2, 3, 0, 4] rfl ?_
    refine j_iinc (pc := 29) (lv2 := [(0, .ref a_t), (1, .ref a_p1), (2, .int p2), (3, .int (v3 + q3)), (4, .int (v4 + 1))]) C dX0_sharesOf_29 jk_I1 (by decide) 4 rfl [1, 2, 3, 4, 0] rfl ?_
    refine j_goto (pc := 32) (tgt := 5) C dX0_sharesOf_32 (by decide) ?_
    refine j_sub (lv2 := [(0, .ref a_t), (1, .ref a_p1), (2, .int p2), (3, .int (v3 + q3)), (4, .int (v4 + 1))]) [0, 1, 2, 3, 4] rfl ?_
    exact IH0 (v3 + q3) (v4 + 1) hd
set_option maxHeartbeats 8000000 in
set_option maxRecDepth 100000 in
theorem la_X0_sharesOf (l : Launch) (G : jG) (a_t : Nat) (a_t_deal : Nat) (a_p1 : Nat) (a_p1_borrower : Nat) (a_p1_borrowerGain : Nat) (a_p1_lender : Nat) (a_p1_lenderGain : Nat) (a_t_way : Nat) (a_t_foundNothing : Nat) (t_size : Int32) (t_deal : Nat → Int32) (p1_persons : Int32) (p1_deals : Int32) (p1_lawYears : Int32) (p1_toldParts : Int32) (a_p1_personNames : Nat) (a_p1_born : Nat) (a_p1_dies : Nat) (a_p1_limit : Nat) (a_p1_dealNames : Nat) (a_p1_year : Nat) (a_p1_either : Nat) (a_p1_byYear : Nat) (a_p1_memo : Nat) (p1_borrower : Nat → Int32) (p1_borrowerGain : Nat → Int32) (p1_lender : Nat → Int32) (p1_lenderGain : Nat → Int32) (p2 : Int32) (X : jX) (C : jC X l G 5 rm_X0_sharesOf cX0_sharesOf RX0 wsX0_sharesOf) (r : Int32) (hE : jE X (some .int) (some (.int r)) (wd_X0_sharesOf G a_t a_t_deal a_p1 a_p1_borrower a_p1_borrowerGain a_p1_lender a_p1_lenderGain a_t_way a_t_foundNothing t_size t_deal p1_persons p1_deals p1_lawYears p1_toldParts a_p1_personNames a_p1_born a_p1_dies a_p1_limit a_p1_dealNames a_p1_year a_p1_either a_p1_byYear a_p1_memo p1_borrower p1_borrowerGain p1_lender p1_lenderGain)) (n : Nat) : (∀ (v3 : Int32) (v4 : Int32), lpN (st_X0_sharesOf t_size t_deal p1_borrower p1_borrowerGain p1_lender p1_lenderGain p2) n ((v3, v4)) = some r → J X 0 0 (wd_X0_sharesOf G a_t a_t_deal a_p1 a_p1_borrower a_p1_borrowerGain a_p1_lender a_p1_lenderGain a_t_way a_t_foundNothing t_size t_deal p1_persons p1_deals p1_lawYears p1_toldParts a_p1_personNames a_p1_born a_p1_dies a_p1_limit a_p1_dealNames a_p1_year a_p1_either a_p1_byYear a_p1_memo p1_borrower p1_borrowerGain p1_lender p1_lenderGain) [(0, .ref a_t), (1, .ref a_p1), (2, .int p2), (3, .int v3), (4, .int v4)] 5 []) := by
  induction n with
  | zero => exact (fun v3 v4 h => by cases h)
  | succ n ih => exact (fun v3 v4 h => lb_X0_sharesOf_0 l G a_t a_t_deal a_p1 a_p1_borrower a_p1_borrowerGain a_p1_lender a_p1_lenderGain a_t_way a_t_foundNothing t_size t_deal p1_persons p1_deals p1_lawYears p1_toldParts a_p1_personNames a_p1_born a_p1_dies a_p1_limit a_p1_dealNames a_p1_year a_p1_either a_p1_byYear a_p1_memo p1_borrower p1_borrowerGain p1_lender p1_lenderGain p2 X C r hE n (ih) v3 v4 (by rw [lpN_succ] at h; exact h))
set_option maxHeartbeats 8000000 in
set_option maxRecDepth 100000 in
theorem ct_X0_sharesOf (l : Launch) (G : jG) (a_t : Nat) (a_t_deal : Nat) (a_p1 : Nat) (a_p1_borrower : Nat) (a_p1_borrowerGain : Nat) (a_p1_lender : Nat) (a_p1_lenderGain : Nat) (a_t_way : Nat) (a_t_foundNothing : Nat) (t_size : Int32) (t_deal : Nat → Int32) (p1_persons : Int32) (p1_deals : Int32) (p1_lawYears : Int32) (p1_toldParts : Int32) (a_p1_personNames : Nat) (a_p1_born : Nat) (a_p1_dies : Nat) (a_p1_limit : Nat) (a_p1_dealNames : Nat) (a_p1_year : Nat) (a_p1_either : Nat) (a_p1_byYear : Nat) (a_p1_memo : Nat) (p1_borrower : Nat → Int32) (p1_borrowerGain : Nat → Int32) (p1_lender : Nat → Int32) (p1_lenderGain : Nat → Int32) (p2 : Int32) (r : Int32) (hd : dn_X0_sharesOf t_size t_deal p1_borrower p1_borrowerGain p1_lender p1_lenderGain p2 = some r) : jM l G yX0_sharesOf wsX0_sharesOf rm_X0_sharesOf [.ref a_t, .ref a_p1, .int p2] (wd_X0_sharesOf G a_t a_t_deal a_p1 a_p1_borrower a_p1_borrowerGain a_p1_lender a_p1_lenderGain a_t_way a_t_foundNothing t_size t_deal p1_persons p1_deals p1_lawYears p1_toldParts a_p1_personNames a_p1_born a_p1_dies a_p1_limit a_p1_dealNames a_p1_year a_p1_either a_p1_byYear a_p1_memo p1_borrower p1_borrowerGain p1_lender p1_lenderGain) (some (.int r)) (wd_X0_sharesOf G a_t a_t_deal a_p1 a_p1_borrower a_p1_borrowerGain a_p1_lender a_p1_lenderGain a_t_way a_t_foundNothing t_size t_deal p1_persons p1_deals p1_lawYears p1_toldParts a_p1_personNames a_p1_born a_p1_dies a_p1_limit a_p1_dealNames a_p1_year a_p1_either a_p1_byYear a_p1_memo p1_borrower p1_borrowerGain p1_lender p1_lenderGain) := by
  refine jM_of (own := RX0) (by decide) rfl rfl rfl (Nat.le_of_ble_eq_true rfl) (lv0 := [(0, .ref a_t), (1, .ref a_p1), (2, .int p2)]) rfl (fun X C hE => ?_)
  unfold dn_X0_sharesOf at hd
  refine j_iconst (pc := 0) (v := 0) C dX0_sharesOf_0 jk_I0 ?_
  refine j_istore_n (pc := 1) (lv2 := [(0, .ref a_t), (1, .ref a_p1), (2, .int p2), (3, .int 0)]) C dX0_sharesOf_1 rfl (by decide) [1, 2, 3, 0] rfl ?_
  refine j_iconst (pc := 2) (v := 0) C dX0_sharesOf_2 jk_I0 ?_
  refine j_istore (pc := 3) (lv2 := [(0, .ref a_t), (1, .ref a_p1), (2, .int p2), (3, .int 0), (4, .int 0)]) C dX0_sharesOf_3 (by decide) [1, 2, 3, 4, 0] rfl ?_
  refine j_sub (lv2 := [(0, .ref a_t), (1, .ref a_p1), (2, .int p2), (3, .int 0), (4, .int 0)]) [0, 1, 2, 3, 4] rfl ?_
  obtain ⟨n, hn⟩ := lpC_ex hd
  exact (la_X0_sharesOf l G a_t a_t_deal a_p1 a_p1_borrower a_p1_borrowerGain a_p1_lender a_p1_lenderGain a_t_way a_t_foundNothing t_size t_deal p1_persons p1_deals p1_lawYears p1_toldParts a_p1_personNames a_p1_born a_p1_dies a_p1_limit a_p1_dealNames a_p1_year a_p1_either a_p1_byYear a_p1_memo p1_borrower p1_borrowerGain p1_lender p1_lenderGain p2 X C r hE n) 0 0 hn
