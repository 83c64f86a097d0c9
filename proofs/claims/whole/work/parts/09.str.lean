/-! ===== the String constants along a walk; String.length, String.charAt on them; Arrays.fill ===== -/
theorem j_ldcS {X : jX} {l : Launch} {G : jG} {nL : Nat} {Rm : Room} {cc : ByteArray} {own : String} {Ts : List Cond} {k n : Nat} {ws : va_W} {lv : List (Nat × Value)} {pc : Nat} {st : List Value} {q : String × Nat × String × Nat} (C : jC X l G nL Rm cc own Ts) (hd : decode cc pc = .ok (.ldc q.2.1, 2)) (hm : q ∈ jRefs) (ho : q.1 = own) (kk : J X k n ws lv (pc + 2) (.ref (G.2.2.2.2.2.1 q.2.2.2) :: st)) : J X k n ws lv pc st := by
  obtain ⟨⟨p, l', e, R, s, m, args, below, meth, c⟩, G', A, nL', Q⟩ := X
  obtain ⟨rfl, rfl, rfl, rfl, hx, hb, hml, hown, hts, hK, hlk, hAq, hFz⟩ := C
  intro H locs ls hP hD hS hl
  subst ho
  exact va_ldcS hx hb hown (hFz.2.2.2.1 q hm) hd (kk H locs ls hP hD hS hl)
theorem j_getCS {X : jX} {l : Launch} {G : jG} {nL : Nat} {Rm : Room} {cc : ByteArray} {own : String} {Ts : List Cond} {k n : Nat} {ws : va_W} {lv : List (Nat × Value)} {pc : Nat} {st : List Value} {ix : Nat} (C : jC X l G nL Rm cc own Ts) (hd : decode cc pc = .ok (.getstatic ix, 3)) (hw : Cond.fieldLink own ix "java/lang/String" "COMPACT_STRINGS" "Z" ∈ Ts) (kk : J X k n ws lv (pc + 3) (.int 1 :: st)) : J X k n ws lv pc st := by
  obtain ⟨⟨p, l', e, R, s, m, args, below, meth, c⟩, G', A, nL', Q⟩ := X
  obtain ⟨rfl, rfl, rfl, rfl, hx, hb, hml, hown, hts, hK, hlk, hAq, hFz⟩ := C
  intro H locs ls hP hD hS hl
  exact va_gets hx hb hFz.2.1 hS hown (hts _ hw) (fun _ h => h) hd (kk H locs ls hP hD hS hl)
theorem j_getSF {X : jX} {l : Launch} {G : jG} {nL : Nat} {Rm : Room} {cc : ByteArray} {own : String} {Ts : List Cond} {k n : Nat} {ws : va_W} {lv : List (Nat × Value)} {pc : Nat} {st : List Value} {ix : Nat} (C : jC X l G nL Rm cc own Ts) (hd : decode cc pc = .ok (.getstatic ix, 3)) (hw : Cond.fieldLink own ix "jdk/internal/util/Preconditions" "SIOOBE_FORMATTER" "Ljava/util/function/BiFunction;" ∈ Ts) (kk : ∀ v : Value, v = .null ∨ (∃ t, v = .ref t) → J X k n ws lv (pc + 3) (v :: st)) : J X k n ws lv pc st := by
  obtain ⟨⟨p, l', e, R, s, m, args, below, meth, c⟩, G', A, nL', Q⟩ := X
  obtain ⟨rfl, rfl, rfl, rfl, hx, hb, hml, hown, hts, hK, hlk, hAq, hFz⟩ := C
  intro H locs ls hP hD hS hl
  rcases hFz.2.2.1 with hz | ⟨t, hz⟩
  · exact va_gets hx hb hz hS hown (hts _ hw) (fun _ h => h) hd (kk _ (Or.inl rfl) H locs ls hP hD hS hl)
  · exact va_gets hx hb hz hS hown (hts _ hw) (fun _ h => h) hd (kk _ (Or.inr ⟨t, rfl⟩) H locs ls hP hD hS hl)
theorem j_getSV {X : jX} {l : Launch} {G : jG} {nL : Nat} {Rm : Room} {cc : ByteArray} {own : String} {Ts : List Cond} {k n : Nat} {ws : va_W} {lv : List (Nat × Value)} {pc : Nat} {st : List Value} {ix i : Nat} (C : jC X l G nL Rm cc own Ts) (hi : i < nJS) (hd : decode cc pc = .ok (.getfield ix, 3)) (hw : Cond.fieldLink own ix "java/lang/String" "value" "[B" ∈ Ts) (kk : J X k n ws lv (pc + 3) (.ref (G.2.2.2.2.2.2 i) :: st)) : J X k n ws lv pc (.ref (G.2.2.2.2.2.1 i) :: st) := by
  obtain ⟨⟨p, l', e, R, s, m, args, below, meth, c⟩, G', A, nL', Q⟩ := X
  obtain ⟨rfl, rfl, rfl, rfl, hx, hb, hml, hown, hts, hK, hlk, hAq, hFz⟩ := C
  intro H locs ls hP hD hS hl
  exact vk_getf hx hb (hFz.1.1 i hi).2.2.1 hS hown (hts _ hw) (fun _ h => h) hd (kk H locs ls hP hD hS hl)
theorem j_getSC {X : jX} {l : Launch} {G : jG} {nL : Nat} {Rm : Room} {cc : ByteArray} {own : String} {Ts : List Cond} {k n : Nat} {ws : va_W} {lv : List (Nat × Value)} {pc : Nat} {st : List Value} {ix i : Nat} (C : jC X l G nL Rm cc own Ts) (hi : i < nJS) (hd : decode cc pc = .ok (.getfield ix, 3)) (hw : Cond.fieldLink own ix "java/lang/String" "coder" "B" ∈ Ts) (kk : J X k n ws lv (pc + 3) (.int 0 :: st)) : J X k n ws lv pc (.ref (G.2.2.2.2.2.1 i) :: st) := by
  obtain ⟨⟨p, l', e, R, s, m, args, below, meth, c⟩, G', A, nL', Q⟩ := X
  obtain ⟨rfl, rfl, rfl, rfl, hx, hb, hml, hown, hts, hK, hlk, hAq, hFz⟩ := C
  intro H locs ls hP hD hS hl
  exact vk_getf hx hb (hFz.1.1 i hi).2.1 hS hown (hts _ hw) (fun _ h => h) hd (kk H locs ls hP hD hS hl)
theorem j_alenSV {X : jX} {l : Launch} {G : jG} {nL : Nat} {Rm : Room} {cc : ByteArray} {own : String} {Ts : List Cond} {k n : Nat} {ws : va_W} {lv : List (Nat × Value)} {pc : Nat} {st : List Value} {i : Nat} (C : jC X l G nL Rm cc own Ts) (hi : i < nJS) (hd : decode cc pc = .ok (.arraylength, 1)) (kk : J X k n ws lv (pc + 1) (.int (nI (lenJS.getD i 0)) :: st)) : J X k n ws lv pc (.ref (G.2.2.2.2.2.2 i) :: st) := by
  obtain ⟨⟨p, l', e, R, s, m, args, below, meth, c⟩, G', A, nL', Q⟩ := X
  obtain ⟨rfl, rfl, rfl, rfl, hx, hb, hml, hown, hts, hK, hlk, hAq, hFz⟩ := C
  intro H locs ls hP hD hS hl
  exact va_tlen hx hb (hFz.1.1 i hi).2.2.2 hS rfl hd (kk H locs ls hP hD hS hl)
theorem j_baldSV {X : jX} {l : Launch} {G : jG} {nL : Nat} {Rm : Room} {cc : ByteArray} {own : String} {Ts : List Cond} {k n : Nat} {ws : va_W} {lv : List (Nat × Value)} {pc : Nat} {st : List Value} {i : Nat} {j : Int32} (C : jC X l G nL Rm cc own Ts) (hi : i < nJS) (hd : decode cc pc = .ok (.baload, 1)) (hj : inb j (lenJS.getD i 0) = true) (kk : J X k n ws lv (pc + 1) (.int ((bytJS.getD i []).getD j.toNatClampNeg 0) :: st)) : J X k n ws lv pc (.int j :: .ref (G.2.2.2.2.2.2 i) :: st) := by
  obtain ⟨⟨p, l', e, R, s, m, args, below, meth, c⟩, G', A, nL', Q⟩ := X
  obtain ⟨rfl, rfl, rfl, rfl, hx, hb, hml, hown, hts, hK, hlk, hAq, hFz⟩ := C
  intro H locs ls hP hD hS hl
  exact va_tb hx hb (hFz.1.1 i hi).2.2.2 hS (inb_in hj) rfl hd (kk H locs ls hP hD hS hl)
theorem j_i2c {X : jX} {l : Launch} {G : jG} {nL : Nat} {Rm : Room} {cc : ByteArray} {own : String} {Ts : List Cond} {k n : Nat} {ws : va_W} {lv : List (Nat × Value)} {pc : Nat} {st : List Value} {x v : Int32} (C : jC X l G nL Rm cc own Ts) (hd : decode cc pc = .ok (.i2c, 1)) (hv : (x.toUInt32 % 65536).toInt32 = v) (kk : J X k n ws lv (pc + 1) (.int v :: st)) : J X k n ws lv pc (.int x :: st) := by
  obtain ⟨⟨p, l', e, R, s, m, args, below, meth, c⟩, G', A, nL', Q⟩ := X
  obtain ⟨rfl, rfl, rfl, rfl, hx, hb, hml, hown, hts, hK, hlk, hAq, hFz⟩ := C
  intro H locs ls hP hD hS hl
  exact lv_i2c hx hb hd hv (kk H locs ls hP hD hS hl)
theorem j_nret {X : jX} {l : Launch} {G : jG} {nL : Nat} {Rm : Room} {cc : ByteArray} {own : String} {Ts : List Cond} {ws : va_W} {lv : List (Nat × Value)} {pc : Nat} {v : Int32} {ty : FieldType} {r : Option Value} {w1 : va_W} (C : jC X l G nL Rm cc own Ts) (hE : jE X (some ty) r w1) (hd : decode cc pc = .ok (.ireturn, 1)) (hv : narrow ty (.int v) = .int v) (hr : r = some (.int v)) (hw : w1 = ws) : J X 0 0 ws lv pc [.int v] := by
  obtain ⟨⟨p, l', e, R, s, m, args, below, meth, c⟩, G', A, nL', Q⟩ := X
  obtain ⟨rfl, rfl, rfl, rfl, hx, hb, hml, hown, hts, hK, hlk, hAq, hFz⟩ := C
  intro H locs ls hP hD hS hl
  obtain ⟨rfl, hret⟩ := hE
  subst hr hw
  exact W.zret hx hb hret hv (fun t ht hW => ⟨rfl, by rw [ht]; exact hP, hS.F ht⟩) hS.2.2 hd hlk
theorem j_aloadV_n {X : jX} {l : Launch} {G : jG} {nL : Nat} {Rm : Room} {cc : ByteArray} {own : String} {Ts : List Cond} {k n : Nat} {ws : va_W} {lv : List (Nat × Value)} {pc : Nat} {st : List Value} {kf : Fin 4} {i : Nat} {v : Value} (C : jC X l G nL Rm cc own Ts) (hd : decode cc pc = .ok (.aload_n kf, 1)) (hv : v = .null ∨ ∃ t, v = .ref t) (hi : (kf : Nat) = i) (ix : Nat) (hk : lv[ix]? = some (i, v)) (kk : J X k n ws lv (pc + 1) (v :: st)) : J X k n ws lv pc st := by
  obtain ⟨⟨p, l', e, R, s, m, args, below, meth, c⟩, G', A, nL', Q⟩ := X
  obtain ⟨rfl, rfl, rfl, rfl, hx, hb, hml, hown, hts, hK, hlk, hAq, hFz⟩ := C
  intro H locs ls hP hD hS hl
  rcases hv with rfl | ⟨t, rfl⟩
  · exact lv_aload_nN hx hb hd hi (lv_at hl ix hk) (kk H locs ls hP hD hS hl)
  · exact lv_aload_n hx hb hd hi (lv_at hl ix hk) (kk H locs ls hP hD hS hl)
theorem j_callVS {X : jX} {l : Launch} {G : jG} {nL : Nat} {Rm : Room} {cc : ByteArray} {own : String} {Ts : List Cond} {k n : Nat} {ws : va_W} {lv : List (Nat × Value)} {pc : Nat} {st : List Value} {As rest st2 : List Value} {r : Option Value} {y : MethodName} {wsy : List Cond} {rm : Room} {bytes : ByteArray} {maxL ix na i : Nat} {ret : Option FieldType} (C : jC X l G nL Rm cc own Ts) (hi : i < nJS) (hM : jM l G y wsy rm (.ref (G.2.2.2.2.2.1 i) :: As) [] r []) (hY : jY y wsy rm bytes maxL ret na) (hd : decode cc pc = .ok (.invokevirtual ix, 3)) (hG : GoodIn Ts (wsV own ix RJ0 y wsy)) (hcn : y.cls = RJ0) (hna : As.length = na) (hR : rm.frames + 1 ≤ Rm.frames ∧ 8 + (maxL + 11) + rm.locals ≤ Rm.locals) (hkn : k ≤ Rm.cells ∧ n ≤ Rm.slots) (hst : st = As.reverse ++ .ref (G.2.2.2.2.2.1 i) :: rest) (hcat : (rest.map fun v => v.category).sum ≤ 8) (hst2 : r.toList ++ rest = st2) (kk : J X k n ws lv (pc + 3) st2) : J X k n ws lv pc st := by
  obtain ⟨⟨p, l', e, R, s, m, args, below, meth, c⟩, G', A, nL', Q⟩ := X
  obtain ⟨rfl, rfl, rfl, rfl, hx, hb, hml, hown, hts, hK, hlk, hAq, hFz⟩ := C
  intro H locs ls hP hD hS hl
  subst hst
  obtain ⟨⟨wsy', hw⟩, ⟨hz1, hz2⟩, hy1, hy2, hy3⟩ := hY
  intro T hT X0
  obtain ⟨v, st₀, t, T', L, h0, X', hL, e1, e2, ⟨hv, hP1, hz, hkp⟩, stp⟩ := va_runV (As := As) (rest := rest) (g := F0 m pc ls (As.reverse ++ .ref (G.2.2.2.2.2.1 i) :: rest)) ⟨hx, hb, hml, hown, hts⟩ (hM.2 H.size) (cwV na hts hG hw hz1 hz2 ⟨hcn, hy1, hy2, hy3⟩ hR) ⟨jPc_blind, vk_recv hFz.1 hi hS, fun U hU hW => ⟨rfl, by rw [hU], fun k q h => by simp at h, va_K.moved hW.alike hK, ⟨fun i j p q h => by simp at h, fun k q h => by simp at h⟩, by rw [hU]; exact hFz.at hS (va_free (ws := ws) (wc := []) hD hS hAq [] rfl) hW⟩⟩ rfl hna hl.1 rfl (lv_room hcat) hd hkn T hT X0
  cases hv
  rw [h0] at hz hkp
  have hF := va_free (ws := ws) (wc := []) hD hS hAq [] rfl
  have hP2 : va_P G.1 vwCl ws T'.heap := hP.kept (fun k q hq => by rw [e1]; exact hkp q.1 (hP k q hq).lt (fun z => z.elim (fun ⟨j, e, hj⟩ => by cases hj) (fun h => absurd h (Nat.not_le.mpr (hP k q hq).lt))))
  subst hst2
  obtain ⟨t2, a1, b1⟩ := kk T'.heap (locs ++ L) ls hP2 hD ⟨Nat.le_trans hS.1 (by rw [e1]; exact hz), fun q h1 h2 => by rw [e1, hkp q (Nat.lt_of_lt_of_le h1 hS.1) (fun z => h2 (hF q z))]; exact hS.2.1 q h1 h2, fun q hq => by
      rcases List.mem_append.mp hq with h | h
      · exact hS.2.2 q h
      · exact hF _ (hL q h)⟩ hl T' rfl X'
  exact ⟨t2, stp t2 a1, b1⟩
abbrev rm_pc3 : Room := { frames := 0, cells := 0, slots := 0, locals := 0 }
theorem jy_J3_checkIndex_8e157 : jY yJ3_checkIndex_8e157 wsJ3_checkIndex_8e157 rm_pc3 cJ3_checkIndex_8e157 3 (some .int) 3 := ⟨⟨_, rfl⟩, ⟨rfl, rfl⟩, by decide, by decide, by decide +kernel⟩
set_option maxHeartbeats 8000000 in
set_option maxRecDepth 100000 in
theorem ct_pc3 (l : Launch) (G : jG) (a b : Int32) (v : Value) (hv : v = .null ∨ ∃ t, v = .ref t) (h1 : ¬ a < 0) (h2 : a < b) : jM l G yJ3_checkIndex_8e157 wsJ3_checkIndex_8e157 rm_pc3 [.int a, .int b, v] [] (some (.int a)) [] := by
  refine jM_of (own := RJ3) (by decide) rfl rfl rfl (by rcases hv with rfl | ⟨t, rfl⟩ <;> exact Nat.le_of_ble_eq_true rfl) (lv0 := [(0, .int a), (1, .int b), (2, v)]) rfl (fun X C hE => ?_)
  refine j_iload_n (pc := 0) C dJ3_checkIndex_8e157_0 rfl 0 rfl ?_
  refine j_if_lt (pc := 1) (tgt := 9) C dJ3_checkIndex_8e157_1 (by decide) (fun c => absurd c h1) (fun c => ?_)
  refine j_iload_n (pc := 4) C dJ3_checkIndex_8e157_4 rfl 0 rfl ?_
  refine j_iload_n (pc := 5) C dJ3_checkIndex_8e157_5 rfl 1 rfl ?_
  refine j_icmp_lt (pc := 6) (tgt := 16) C dJ3_checkIndex_8e157_6 (by decide) (fun c => ?_) (fun c => absurd h2 c)
  refine j_iload_n (pc := 16) C dJ3_checkIndex_8e157_16 rfl 0 rfl ?_
  exact j_iret (pc := 17) C hE dJ3_checkIndex_8e157_17 rfl rfl
abbrev rm_ci2 : Room := { frames := 1, cells := 0, slots := 0, locals := 22 }
theorem jy_J0_checkIndex_df160 : jY yJ0_checkIndex_df160 wsJ0_checkIndex_df160 rm_ci2 cJ0_checkIndex_df160 2 none 2 := ⟨⟨_, rfl⟩, ⟨rfl, rfl⟩, by decide, by decide, by decide +kernel⟩
set_option maxHeartbeats 8000000 in
set_option maxRecDepth 100000 in
theorem ct_ci2 (l : Launch) (G : jG) (a b : Int32) (h1 : ¬ a < 0) (h2 : a < b) : jM l G yJ0_checkIndex_df160 wsJ0_checkIndex_df160 rm_ci2 [.int a, .int b] [] none [] := by
  refine jM_of (own := RJ0) (by decide) rfl rfl rfl (Nat.le_of_ble_eq_true rfl) (lv0 := [(0, .int a), (1, .int b)]) rfl (fun X C hE => ?_)
  refine j_iload_n (pc := 0) C dJ0_checkIndex_df160_0 rfl 0 rfl ?_
  refine j_iload_n (pc := 1) C dJ0_checkIndex_df160_1 rfl 1 rfl ?_
  refine j_getSF (pc := 2) C dJ0_checkIndex_df160_2 (List.mem_of_getElem? (i := 1) rfl) (fun v hv => ?_)
  refine j_callS (pc := 5) (As := [.int a, .int b, v]) (rest := []) (st2 := [.int a]) (ws2 := []) C (ct_pc3 l G a b v hv h1 h2) jy_J3_checkIndex_8e157 dJ0_checkIndex_df160_5 gJ0_checkIndex_df160_J3_checkIndex_8e157 rfl (by decide) ⟨Nat.zero_le _, Nat.zero_le _⟩ [] rfl rfl rfl rfl (Nat.le_of_ble_eq_true rfl) rfl ?_
  refine j_pop (pc := 8) C dJ0_checkIndex_df160_8 rfl ?_
  exact j_vret (pc := 9) C hE dJ0_checkIndex_df160_9 rfl rfl
abbrev rm_l1ca : Room := { frames := 2, cells := 0, slots := 0, locals := 64 }
theorem jy_J1_charAt_3b067 : jY yJ1_charAt_3b067 wsJ1_charAt_3b067 rm_l1ca cJ1_charAt_3b067 2 (some .char) 2 := ⟨⟨_, rfl⟩, ⟨rfl, rfl⟩, by decide, by decide, by decide +kernel⟩
theorem jch_all : ∀ i, i < 11 → (bytJS.getD i []).length = lenJS.getD i 0 ∧ ∀ b ∈ bytJS.getD i [], ((b &&& 255).toUInt32 % 65536).toInt32 = b ∧ narrow .char (.int b) = .int b := by decide +kernel
theorem jch_ok {i : Nat} (hi : i < nJS) {j : Int32} (hj : inb j (lenJS.getD i 0) = true) : ((jch i j &&& 255).toUInt32 % 65536).toInt32 = jch i j ∧ narrow .char (.int (jch i j)) = .int (jch i j) := by
  obtain ⟨h1, h2⟩ := jch_all i hi
  have h3 : j.toNatClampNeg < (bytJS.getD i []).length := by
    rw [h1]
    have := inb_in hj
    rcases Nat.lt_or_ge j.toNatClampNeg (lenJS.getD i 0) with h | h
    · exact h
    · exact absurd (Or.inr h) this
  unfold jch
  generalize bytJS.getD i [] = L at h2 h3 ⊢
  refine h2 _ ?_
  rw [List.getD_eq_getElem?_getD, List.getElem?_eq_getElem h3]
  exact List.getElem_mem h3
theorem jlen_lt : ∀ i, i < 11 → lenJS.getD i 0 < 2 ^ 31 := by decide +kernel
theorem inb_lt {j : Int32} {n : Nat} (hn : n < 2 ^ 31) (h : inb j n = true) : ¬ j < 0 ∧ j < nI n := by
  have h1 := inb_in h
  obtain ⟨q, hq, rfl⟩ := vp_in_of h1 hn
  exact ⟨nI_pos (by omega), nI_lt hq hn⟩
set_option maxHeartbeats 8000000 in
set_option maxRecDepth 100000 in
theorem ct_l1ca (l : Launch) (G : jG) (i : Nat) (hi : i < nJS) (j : Int32) (hj : inb j (lenJS.getD i 0) = true) : jM l G yJ1_charAt_3b067 wsJ1_charAt_3b067 rm_l1ca [.ref (G.2.2.2.2.2.2 i), .int j] [] (some (.int (jch i j))) [] := by
  refine jM_of (own := RJ1) (by decide) rfl rfl rfl (Nat.le_of_ble_eq_true rfl) (lv0 := [(0, .ref (G.2.2.2.2.2.2 i)), (1, .int j)]) rfl (fun X C hE => ?_)
  obtain ⟨b1, b2⟩ := inb_lt (jlen_lt i hi) hj
  refine j_iload_n (pc := 0) C dJ1_charAt_3b067_0 rfl 1 rfl ?_
  refine j_aload_n (pc := 1) C dJ1_charAt_3b067_1 rfl 0 rfl ?_
  refine j_alenSV (pc := 2) C hi dJ1_charAt_3b067_2 ?_
  refine j_callS (pc := 3) (As := [.int j, .int (nI (lenJS.getD i 0))]) (rest := []) (st2 := []) (ws2 := []) C (ct_ci2 l G j _ b1 b2) jy_J0_checkIndex_df160 dJ1_charAt_3b067_3 gJ1_charAt_3b067_J0_checkIndex_df160 rfl (by decide) ⟨Nat.zero_le _, Nat.zero_le _⟩ [] rfl rfl rfl rfl (Nat.le_of_ble_eq_true rfl) rfl ?_
  refine j_aload_n (pc := 6) C dJ1_charAt_3b067_6 rfl 0 rfl ?_
  refine j_iload_n (pc := 7) C dJ1_charAt_3b067_7 rfl 1 rfl ?_
  refine j_baldSV (pc := 8) C hi dJ1_charAt_3b067_8 hj ?_
  refine j_sipush (pc := 9) (v := 255) C dJ1_charAt_3b067_9 (by decide) ?_
  refine j_iand (pc := 12) C dJ1_charAt_3b067_12 ?_
  refine j_i2c (pc := 13) C dJ1_charAt_3b067_13 (jch_ok hi hj).1 ?_
  exact j_nret (pc := 14) C hE dJ1_charAt_3b067_14 (jch_ok hi hj).2 rfl rfl
abbrev rm_cod : Room := { frames := 0, cells := 0, slots := 0, locals := 0 }
theorem jy_J0_coder_7d493 : jY yJ0_coder_7d493 wsJ0_coder_7d493 rm_cod cJ0_coder_7d493 1 (some .byte) 0 := ⟨⟨_, rfl⟩, ⟨rfl, rfl⟩, by decide, by decide, by decide +kernel⟩
set_option maxHeartbeats 8000000 in
set_option maxRecDepth 100000 in
theorem ct_cod (l : Launch) (G : jG) (i : Nat) (hi : i < nJS) : jM l G yJ0_coder_7d493 wsJ0_coder_7d493 rm_cod [.ref (G.2.2.2.2.2.1 i)] [] (some (.int 0)) [] := by
  refine jM_of (own := RJ0) (by decide) rfl rfl rfl (Nat.le_of_ble_eq_true rfl) (lv0 := [(0, .ref (G.2.2.2.2.2.1 i))]) rfl (fun X C hE => ?_)
  refine j_getCS (pc := 0) C dJ0_coder_7d493_0 (List.mem_of_getElem? (i := 1) rfl) ?_
  refine j_if_eq (pc := 3) (tgt := 13) C dJ0_coder_7d493_3 (by decide) (fun c => absurd c (by decide)) (fun _ => ?_)
  refine j_aload_n (pc := 6) C dJ0_coder_7d493_6 rfl 0 rfl ?_
  refine j_getSC (pc := 7) C hi dJ0_coder_7d493_7 (List.mem_of_getElem? (i := 2) rfl) ?_
  refine j_goto (pc := 10) (tgt := 14) C dJ0_coder_7d493_10 (by decide) ?_
  exact j_nret (pc := 14) C hE dJ0_coder_7d493_14 rfl rfl rfl
abbrev rm_isl : Room := { frames := 0, cells := 0, slots := 0, locals := 0 }
theorem jy_J0_isLatin1_aae02 : jY yJ0_isLatin1_aae02 wsJ0_isLatin1_aae02 rm_isl cJ0_isLatin1_aae02 1 (some .boolean) 0 := ⟨⟨_, rfl⟩, ⟨rfl, rfl⟩, by decide, by decide, by decide +kernel⟩
set_option maxHeartbeats 8000000 in
set_option maxRecDepth 100000 in
theorem ct_isl (l : Launch) (G : jG) (i : Nat) (hi : i < nJS) : jM l G yJ0_isLatin1_aae02 wsJ0_isLatin1_aae02 rm_isl [.ref (G.2.2.2.2.2.1 i)] [] (some (.int 1)) [] := by
  refine jM_of (own := RJ0) (by decide) rfl rfl rfl (Nat.le_of_ble_eq_true rfl) (lv0 := [(0, .ref (G.2.2.2.2.2.1 i))]) rfl (fun X C hE => ?_)
  refine j_getCS (pc := 0) C dJ0_isLatin1_aae02_0 (List.mem_of_getElem? (i := 1) rfl) ?_
  refine j_if_eq (pc := 3) (tgt := 17) C dJ0_isLatin1_aae02_3 (by decide) (fun c => absurd c (by decide)) (fun _ => ?_)
  refine j_aload_n (pc := 6) C dJ0_isLatin1_aae02_6 rfl 0 rfl ?_
  refine j_getSC (pc := 7) C hi dJ0_isLatin1_aae02_7 (List.mem_of_getElem? (i := 2) rfl) ?_
  refine j_if_ne (pc := 10) (tgt := 17) C dJ0_isLatin1_aae02_10 (by decide) (fun c => absurd rfl c) (fun _ => ?_)
  refine j_iconst (pc := 13) (v := 1) C dJ0_isLatin1_aae02_13 (by decide) ?_
  refine j_goto (pc := 14) (tgt := 18) C dJ0_isLatin1_aae02_14 (by decide) ?_
  exact j_nret (pc := 18) C hE dJ0_isLatin1_aae02_18 rfl rfl rfl
abbrev rm_slen : Room := { frames := 1, cells := 0, slots := 0, locals := 20 }
theorem jy_J0_length_8abf5 : jY yJ0_length_8abf5 wsJ0_length_8abf5 rm_slen cJ0_length_8abf5 1 (some .int) 0 := ⟨⟨_, rfl⟩, ⟨rfl, rfl⟩, by decide, by decide, by decide +kernel⟩
theorem jlen_shr : ∀ i, i < 11 → nI (lenJS.getD i 0) >>> ((0 : Int32) &&& 31) = nI (lenJS.getD i 0) := by decide +kernel
set_option maxHeartbeats 8000000 in
set_option maxRecDepth 100000 in
theorem ct_slen (l : Launch) (G : jG) (i : Nat) (hi : i < nJS) : jM l G yJ0_length_8abf5 wsJ0_length_8abf5 rm_slen [.ref (G.2.2.2.2.2.1 i)] [] (some (.int (nI (lenJS.getD i 0)))) [] := by
  refine jM_of (own := RJ0) (by decide) rfl rfl rfl (Nat.le_of_ble_eq_true rfl) (lv0 := [(0, .ref (G.2.2.2.2.2.1 i))]) rfl (fun X C hE => ?_)
  refine j_aload_n (pc := 0) C dJ0_length_8abf5_0 rfl 0 rfl ?_
  refine j_getSV (pc := 1) C hi dJ0_length_8abf5_1 (List.mem_of_getElem? (i := 1) rfl) ?_
  refine j_alenSV (pc := 4) C hi dJ0_length_8abf5_4 ?_
  refine j_aload_n (pc := 5) C dJ0_length_8abf5_5 rfl 0 rfl ?_
  refine j_callVS (pc := 6) (i := i) (As := []) (rest := [.int (nI (lenJS.getD i 0))]) (st2 := [.int 0, .int (nI (lenJS.getD i 0))]) C hi (ct_cod l G i hi) jy_J0_coder_7d493 dJ0_length_8abf5_6 gJ0_length_8abf5_J0_coder_7d493 rfl rfl (by decide) ⟨Nat.zero_le _, Nat.zero_le _⟩ rfl (Nat.le_of_ble_eq_true rfl) rfl ?_
  refine j_ishr (pc := 9) C dJ0_length_8abf5_9 ?_
  exact j_iret (pc := 10) C hE dJ0_length_8abf5_10 (by rw [jlen_shr i hi]) rfl
abbrev rm_schar : Room := { frames := 3, cells := 0, slots := 0, locals := 100 }
theorem jy_J0_charAt_5068e : jY yJ0_charAt_5068e wsJ0_charAt_5068e rm_schar cJ0_charAt_5068e 2 (some .char) 1 := ⟨⟨_, rfl⟩, ⟨rfl, rfl⟩, by decide, by decide, by decide +kernel⟩
set_option maxHeartbeats 8000000 in
set_option maxRecDepth 100000 in
theorem ct_schar (l : Launch) (G : jG) (i : Nat) (hi : i < nJS) (j : Int32) (hj : inb j (lenJS.getD i 0) = true) : jM l G yJ0_charAt_5068e wsJ0_charAt_5068e rm_schar [.ref (G.2.2.2.2.2.1 i), .int j] [] (some (.int ((bytJS.getD i []).getD j.toNatClampNeg 0))) [] := by
  refine jM_of (own := RJ0) (by decide) rfl rfl rfl (Nat.le_of_ble_eq_true rfl) (lv0 := [(0, .ref (G.2.2.2.2.2.1 i)), (1, .int j)]) rfl (fun X C hE => ?_)
  refine j_aload_n (pc := 0) C dJ0_charAt_5068e_0 rfl 0 rfl ?_
  refine j_callVS (pc := 1) (i := i) (As := []) (rest := []) (st2 := [.int 1]) C hi (ct_isl l G i hi) jy_J0_isLatin1_aae02 dJ0_charAt_5068e_1 gJ0_charAt_5068e_J0_isLatin1_aae02 rfl rfl (by decide) ⟨Nat.zero_le _, Nat.zero_le _⟩ rfl (Nat.le_of_ble_eq_true rfl) rfl ?_
  refine j_if_eq (pc := 4) (tgt := 16) C dJ0_charAt_5068e_4 (by decide) (fun c => absurd c (by decide)) (fun _ => ?_)
  refine j_aload_n (pc := 7) C dJ0_charAt_5068e_7 rfl 0 rfl ?_
  refine j_getSV (pc := 8) C hi dJ0_charAt_5068e_8 (List.mem_of_getElem? (i := 1) rfl) ?_
  refine j_iload_n (pc := 11) C dJ0_charAt_5068e_11 rfl 1 rfl ?_
  refine j_callS (pc := 12) (As := [.ref (G.2.2.2.2.2.2 i), .int j]) (rest := []) (st2 := [.int (jch i j)]) (ws2 := []) C (ct_l1ca l G i hi j hj) jy_J1_charAt_3b067 dJ0_charAt_5068e_12 gJ0_charAt_5068e_J1_charAt_3b067 rfl (by decide) ⟨Nat.zero_le _, Nat.zero_le _⟩ [] rfl rfl rfl rfl (Nat.le_of_ble_eq_true rfl) rfl ?_
  exact j_nret (pc := 15) C hE dJ0_charAt_5068e_15 (jch_ok hi hj).2 rfl rfl
theorem jk_B10 : (Int8.ofInt 10).toInt32 = 10 := by decide +kernel
theorem jk_B11 : (Int8.ofInt 11).toInt32 = 11 := by decide +kernel
theorem jk_B12 : (Int8.ofInt 12).toInt32 = 12 := by decide +kernel
theorem jk_B120 : (Int8.ofInt 120).toInt32 = 120 := by decide +kernel
theorem jk_B121 : (Int8.ofInt 121).toInt32 = 121 := by decide +kernel
theorem jk_B122 : (Int8.ofInt 122).toInt32 = 122 := by decide +kernel
theorem jk_B14 : (Int8.ofInt 14).toInt32 = 14 := by decide +kernel
theorem jk_B16 : (Int8.ofInt 16).toInt32 = 16 := by decide +kernel
theorem jk_B20 : (Int8.ofInt 20).toInt32 = 20 := by decide +kernel
theorem jk_B24 : (Int8.ofInt 24).toInt32 = 24 := by decide +kernel
theorem jk_B30 : (Int8.ofInt 30).toInt32 = 30 := by decide +kernel
theorem jk_B32 : (Int8.ofInt 32).toInt32 = 32 := by decide +kernel
theorem jk_B34 : (Int8.ofInt 34).toInt32 = 34 := by decide +kernel
theorem jk_B40 : (Int8.ofInt 40).toInt32 = 40 := by decide +kernel
theorem jk_B44 : (Int8.ofInt 44).toInt32 = 44 := by decide +kernel
theorem jk_B48 : (Int8.ofInt 48).toInt32 = 48 := by decide +kernel
theorem jk_B50 : (Int8.ofInt 50).toInt32 = 50 := by decide +kernel
theorem jk_B57 : (Int8.ofInt 57).toInt32 = 57 := by decide +kernel
theorem jk_B59 : (Int8.ofInt 59).toInt32 = 59 := by decide +kernel
theorem jk_B6 : (Int8.ofInt 6).toInt32 = 6 := by decide +kernel
theorem jk_B60 : (Int8.ofInt 60).toInt32 = 60 := by decide +kernel
theorem jk_B63 : (Int8.ofInt 63).toInt32 = 63 := by decide +kernel
theorem jk_B7 : (Int8.ofInt 7).toInt32 = 7 := by decide +kernel
theorem jk_B8 : (Int8.ofInt 8).toInt32 = 8 := by decide +kernel
theorem jk_B9 : (Int8.ofInt 9).toInt32 = 9 := by decide +kernel
theorem jk_B97 : (Int8.ofInt 97).toInt32 = 97 := by decide +kernel
theorem jk_B99 : (Int8.ofInt 99).toInt32 = 99 := by decide +kernel
theorem jk_Bm2 : (Int8.ofInt (-2)).toInt32 = (-2) := by decide +kernel
theorem jk_I0 : Int32.ofInt 0 = 0 := by decide +kernel
theorem jk_I1 : Int32.ofInt 1 = 1 := by decide +kernel
theorem jk_I2 : Int32.ofInt 2 = 2 := by decide +kernel
theorem jk_I3 : Int32.ofInt 3 = 3 := by decide +kernel
theorem jk_I4 : Int32.ofInt 4 = 4 := by decide +kernel
theorem jk_I5 : Int32.ofInt 5 = 5 := by decide +kernel
theorem jk_Im1 : Int32.ofInt (-1) = (-1) := by decide +kernel
theorem jk_Im8 : Int32.ofInt (-8) = (-8) := by decide +kernel
theorem jk_S1024 : (Int16.ofInt 1024).toInt32 = 1024 := by decide +kernel
theorem jk_S12345 : (Int16.ofInt 12345).toInt32 = 12345 := by decide +kernel
theorem jk_S224 : (Int16.ofInt 224).toInt32 = 224 := by decide +kernel
theorem jk_S254 : (Int16.ofInt 254).toInt32 = 254 := by decide +kernel
theorem jk_S255 : (Int16.ofInt 255).toInt32 = 255 := by decide +kernel
theorem jk_S284 : (Int16.ofInt 284).toInt32 = 284 := by decide +kernel
theorem jk_S600 : (Int16.ofInt 600).toInt32 = 600 := by decide +kernel
theorem jk_S900 : (Int16.ofInt 900).toInt32 = 900 := by decide +kernel
theorem jk_S940 : (Int16.ofInt 940).toInt32 = 940 := by decide +kernel
/-! ##### java/util/Arrays.fill([II)V -/
abbrev rm_J7_fill_53178 : Room := { frames := 0, cells := 0, slots := 0, locals := 0 }
theorem jy_J7_fill_53178 : jY yJ7_fill_53178 wsJ7_fill_53178 rm_J7_fill_53178 cJ7_fill_53178 4 none 2 := ⟨⟨_, rfl⟩, ⟨rfl, rfl⟩, by decide, by decide, by decide +kernel⟩
def wd_J7_fill_53178 (G : jG) (len_p1 : Nat) (a_p1 : Nat) (p1 : Nat → Int32) : va_W := [(a_p1, .inl (G.2.2.1, len_p1, .inl p1))]
set_option maxHeartbeats 8000000 in
set_option maxRecDepth 100000 in
theorem lb_J7_fill_53178_0 (l : Launch) (G : jG) (len_p1 : Nat) (a_p1 : Nat) (p2 : Int32) (X : jX) (C : jC X l G 4 rm_J7_fill_53178 cJ7_fill_53178 RJ7 wsJ7_fill_53178) (r : (Nat → Int32)) (hE : jE X none none (wd_J7_fill_53178 G len_p1 a_p1 r)) (n : Nat) (IH0 : ∀ (v2 : Int32) (v3 : Int32) (p1 : Nat → Int32), lpN (st_J7_fill_53178 len_p1 p2) n ((v2, v3, p1)) = some r → J X 0 0 (wd_J7_fill_53178 G len_p1 a_p1 p1) [(0, .ref a_p1), (1, .int p2), (2, .int v2), (3, .int v3)] 5 []) (v2 : Int32) (v3 : Int32) (p1 : Nat → Int32) (hd : lpR (st_J7_fill_53178 len_p1 p2) n (bd_J7_fill_53178_0 len_p1 p2 v2 v3 p1) = some r) : J X 0 0 (wd_J7_fill_53178 G len_p1 a_p1 p1) [(0, .ref a_p1), (1, .int p2), (2, .int v2), (3, .int v3)] 5 [] := by
  unfold bd_J7_fill_53178_0 at hd
  refine j_iload_n (pc := 5) C dJ7_fill_53178_5 rfl 2 rfl ?_
  refine j_iload_n (pc := 6) C dJ7_fill_53178_6 rfl 3 rfl ?_
  refine j_icmp_ge (pc := 7) (tgt := 20) C dJ7_fill_53178_7 (by decide) (fun c1 => ?_) (fun c1 => ?_)
  · have hd := lp_pos c1 hd
    obtain rfl := Option.some.inj hd
    exact j_vret (pc := 20) C hE dJ7_fill_53178_20 rfl rfl
  · have hd := lp_neg c1 hd
    refine j_aload_n (pc := 10) C dJ7_fill_53178_10 rfl 0 rfl ?_
    refine j_iload_n (pc := 11) C dJ7_fill_53178_11 rfl 2 rfl ?_
    refine j_iload_n (pc := 12) C dJ7_fill_53178_12 rfl 1 rfl ?_
    obtain ⟨h2, hd⟩ := lp_chk hd
    refine j_iast (pc := 13) (q0 := 0) (ws2 := wd_J7_fill_53178 G len_p1 a_p1 (upd p1 (v2).toNatClampNeg p2)) C dJ7_fill_53178_13 rfl h2 rfl ?_
    refine j_iinc (pc := 14) (lv2 := [(0, .ref a_p1), (1, .int p2), (2, .int (v2 + 1)), (3, .int v3)]) C dJ7_fill_53178_14 jk_I1 (by decide) 2 rfl [1, 2, 0, 3] rfl ?_
    refine j_goto (pc := 17) (tgt := 5) C dJ7_fill_53178_17 (by decide) ?_
    refine j_sub (lv2 := [(0, .ref a_p1), (1, .int p2), (2, .int (v2 + 1)), (3, .int v3)]) [0, 1, 2, 3] rfl ?_
    exact IH0 (v2 + 1) v3 (upd p1 (v2).toNatClampNeg p2) hd
set_option maxHeartbeats 8000000 in
set_option maxRecDepth 100000 in
theorem la_J7_fill_53178 (l : Launch) (G : jG) (len_p1 : Nat) (a_p1 : Nat) (p2 : Int32) (X : jX) (C : jC X l G 4 rm_J7_fill_53178 cJ7_fill_53178 RJ7 wsJ7_fill_53178) (r : (Nat → Int32)) (hE : jE X none none (wd_J7_fill_53178 G len_p1 a_p1 r)) (n : Nat) : (∀ (v2 : Int32) (v3 : Int32) (p1 : Nat → Int32), lpN (st_J7_fill_53178 len_p1 p2) n ((v2, v3, p1)) = some r → J X 0 0 (wd_J7_fill_53178 G len_p1 a_p1 p1) [(0, .ref a_p1), (1, .int p2), (2, .int v2), (3, .int v3)] 5 []) := by
  induction n with
  | zero => exact (fun v2 v3 p1 h => by cases h)
  | succ n ih => exact (fun v2 v3 p1 h => lb_J7_fill_53178_0 l G len_p1 a_p1 p2 X C r hE n (ih) v2 v3 p1 (by rw [lpN_succ] at h; exact h))
set_option maxHeartbeats 8000000 in
set_option maxRecDepth 100000 in
theorem ct_J7_fill_53178 (l : Launch) (G : jG) (len_p1 : Nat) (a_p1 : Nat) (p1 : Nat → Int32) (p2 : Int32) (r : (Nat → Int32)) (hd : dn_J7_fill_53178 len_p1 p1 p2 = some r) : jM l G yJ7_fill_53178 wsJ7_fill_53178 rm_J7_fill_53178 [.ref a_p1, .int p2] (wd_J7_fill_53178 G len_p1 a_p1 p1) none (wd_J7_fill_53178 G len_p1 a_p1 r) := by
  refine jM_of (own := RJ7) (by decide) rfl rfl rfl (Nat.le_of_ble_eq_true rfl) (lv0 := [(0, .ref a_p1), (1, .int p2)]) rfl (fun X C hE => ?_)
  unfold dn_J7_fill_53178 at hd
  refine j_iconst (pc := 0) (v := 0) C dJ7_fill_53178_0 jk_I0 ?_
  refine j_istore_n (pc := 1) (lv2 := [(0, .ref a_p1), (1, .int p2), (2, .int 0)]) C dJ7_fill_53178_1 rfl (by decide) [1, 2, 0] rfl ?_
  refine j_aload_n (pc := 2) C dJ7_fill_53178_2 rfl 0 rfl ?_
  refine j_alen (pc := 3) (q0 := 0) (t0 := 1) C dJ7_fill_53178_3 rfl rfl rfl ?_
  refine j_istore_n (pc := 4) (lv2 := [(0, .ref a_p1), (1, .int p2), (2, .int 0), (3, .int (Int32.ofNat len_p1))]) C dJ7_fill_53178_4 rfl (by decide) [1, 2, 3, 0] rfl ?_
  refine j_sub (lv2 := [(0, .ref a_p1), (1, .int p2), (2, .int 0), (3, .int (Int32.ofNat len_p1))]) [0, 1, 2, 3] rfl ?_
  obtain ⟨n, hn⟩ := lpC_ex hd
  exact (la_J7_fill_53178 l G len_p1 a_p1 p2 X C r hE n) 0 (Int32.ofNat len_p1) p1 hn
theorem fill_loop (n : Nat) (f : Nat → Int32) (v : Int32) (hn : n < 2 ^ 31) : ∀ d k, k + d = n → gn_J7_fill_53178_0 n v (nI k) (nI n) (jfill k f v) = some (jfill n f v) := by
  intro d
  induction d with
  | zero =>
    intro k hk
    have : k = n := by omega
    subst this
    rw [gq_J7_fill_53178_0]
    rw [if_pos (nI_le (Nat.le_refl _) hn)]
  | succ d ih =>
    intro k hk
    rw [gq_J7_fill_53178_0]
    rw [if_neg (nI_ge (by omega) hn), if_pos (inb_nI (by omega) hn), nI_clamp (by omega), jfill_step, nI_1]
    exact ih (k + 1) (by omega)
theorem fill_ok (n : Nat) (f : Nat → Int32) (v : Int32) (hn : n < 2 ^ 31) : dn_J7_fill_53178 n f v = some (jfill n f v) := by
  unfold dn_J7_fill_53178
  have h0 : f = jfill 0 f v := by funext j; simp [jfill]
  have := fill_loop n f v hn n 0 (by omega)
  rw [← h0] at this
  exact this
theorem ct_fill (l : Launch) (G : jG) (n a : Nat) (f : Nat → Int32) (v : Int32) (hn : n < 2 ^ 31) : jM l G yJ7_fill_53178 wsJ7_fill_53178 rm_J7_fill_53178 [.ref a, .int v] (wd_J7_fill_53178 G n a f) none (wd_J7_fill_53178 G n a (jfill n f v)) :=
  ct_J7_fill_53178 l G n a f v _ (fill_ok n f v hn)
