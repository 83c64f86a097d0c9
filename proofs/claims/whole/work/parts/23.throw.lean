/-! ===== methods that throw NoSuchElementException: contracts that return or throw ===== -/
abbrev jExD : List MethodName := [⟨"java/lang/RuntimeException", "<init>", "(Ljava/lang/String;)V"⟩, ⟨"java/lang/Exception", "<init>", "(Ljava/lang/String;)V"⟩, ⟨"java/lang/Throwable", "<init>", "(Ljava/lang/String;)V"⟩]
def jXts : List (Nat × String × Nat) := [(134, "no such person, or nothing such of one", 0), (155, "no such deal, or nothing such of one", 1)]
/-- what a throw finds and never writes -/
def jZ (sa : Nat → Nat) (A : Nat → Prop) (U : State) (H : Heap) : Prop :=
  vx_Zq Bundle.tN "UNASSIGNED_STACK" Bundle.steD A U H ∧ vx_Zq Bundle.tN "SUPPRESSED_SENTINEL" Bundle.listD A U H ∧ (∀ q ∈ jXts, vk_R RX11 q.1 q.2.1 (sa q.2.2) U) ∧ va_Nw (.castable jExN jExN) U ∧ ∀ x ∈ jExD, va_Nw (.declares x) U
theorem jZ.same {sa : Nat → Nat} {A : Nat → Prop} {u U : State} {H : Heap} (hv : U.vm = u.vm) (h : jZ sa A u H) : jZ sa A U H := by
  have hal : u.vm.Alike U.vm := by rw [hv]; exact Vm.Alike.refl u.vm
  exact ⟨h.1.moved hal, h.2.1.moved hal, fun q hq => (h.2.2.1 q hq).same hv, va_tabs rfl hv.symm h.2.2.2.1, fun x hx => va_tabs rfl hv.symm (h.2.2.2.2 x hx)⟩
theorem jZ.at {sa : Nat → Nat} {A B : Nat → Prop} {s U : State} {H : Heap} {locs : List Loc} (h : jZ sa A s s.heap) (hS : va_S A s.heap H locs) (hB : ∀ q, B q → A q) (hW : s.WarmedH U.vm) : jZ sa B U H :=
  ⟨((h.1.kept hS.2.1).narrow hB).moved hW.alike, ((h.2.1.kept hS.2.1).narrow hB).moved hW.alike, fun q hq => (h.2.2.1 q hq).warm hW, va_Nw.warmC hW h.2.2.2.1, fun x hx => va_Nw.warmD hW (h.2.2.2.2 x hx)⟩
def jPx (G : jG) (sa : Nat → Nat) (av : List Value) (w0 : va_W) (sz : Nat) : Array Value → State → Prop := va_Pc av (fun U => U.heap.size = sz ∧ va_P G.1 vwCl w0 U.heap ∧ va_K G.1 vwCl (jTys G) U ∧ va_D (fun _ => True) w0 ∧ jF G (va_A w0 sz) U U.heap ∧ jZ sa (va_A w0 sz) U U.heap)
theorem jPx_blind {G : jG} {sa : Nat → Nat} {av : List Value} {w0 : va_W} {sz : Nat} : FrameBlind (jPx G sa av w0 sz) := fun a U g mk q => by
  obtain ⟨q0, q1, qP, qK, qD, qF, qZ⟩ := q
  exact ⟨q0, q1, qP, va_K.moved (u := U) (U := U.calling g mk a) (Vm.Alike.refl U.vm) qK, qD, jF.same (u := U) (U := U.calling g mk a) rfl qF, jZ.same (u := U) (U := U.calling g mk a) rfl qZ⟩
def jXq (G : jG) (r : Option Int32) (w0 : va_W) (A : Nat → Prop) : Array Value → State → Outcome → State → Prop := va_Qi (S := Unit) (fun v _ => r = some v) (fun _ t => va_P G.1 vwCl w0 t.heap) A
def jXx (G : jG) (r : Option Int32) (w0 : va_W) (A : Nat → Prop) : String → State → State → Prop := vx_X (S := Unit) (fun _ => r = none) (fun E _ t => E = jExN ∧ va_P G.1 vwCl w0 t.heap) A
/-- answers v (some v), or throws (none); nothing that was there changes -/
def jMx (l : Launch) (G : jG) (sa : Nat → Nat) (y : MethodName) (Ts : List Cond) (rm : Room) (av : List Value) (w0 : va_W) (r : Option Int32) : Prop :=
  ∀ sz : Nat, vx_Met l y Ts rm (jPx G sa av w0 sz) (jXq G r w0 (va_A w0 sz)) (jXx G r w0 (va_A w0 sz)) 1 6 (va_A w0 sz)
def jEx (X : jX) (sa : Nat → Nat) (r : Option Int32) (w0 : va_W) : Prop :=
  match X with
  | ((p, l, e, R, s, m, args, below, meth, c), G, A, nL, Q) => Q = vx_MQ below (jXq G r w0 A) (jXx G r w0 A) args s 1 6 A ∧ meth.sig.returnType = some .int ∧ (∀ x ∈ c.exceptionTable.toList, False) ∧ jZ sa A s s.heap
theorem j_xret {X : jX} {l : Launch} {G : jG} {nL : Nat} {Rm : Room} {cc : ByteArray} {own : String} {Ts : List Cond} {sa : Nat → Nat} {ws w0 : va_W} {lv : List (Nat × Value)} {pc : Nat} {v : Int32} {r : Option Int32} (C : jC X l G nL Rm cc own Ts) (hE : jEx X sa r w0) (hd : decode cc pc = .ok (.ireturn, 1)) (hr : r = some v) (hw : w0 = ws) : J X 0 0 ws lv pc [.int v] := by
  obtain ⟨⟨p, l', e, R, s, m, args, below, meth, c⟩, G', A, nL', Q⟩ := X
  obtain ⟨rfl, rfl, rfl, rfl, hx, hb, hml, hown, hts, hK, hlk, hAq, hFz⟩ := C
  intro H locs ls hP hD hS hl
  obtain ⟨rfl, hret, hte, hZ⟩ := hE
  subst hw
  refine vx_ret ?_
  refine W.widen (k := 1) (n := 6) (Nat.zero_le _) (Nat.zero_le _) ?_
  exact W.iret hx hb hret (fun t ht hW => ⟨⟨v, (), rfl, hr, (ht ▸ hP : va_P G.1 vwCl w0 t.heap)⟩, hS.F ht⟩) hS.2.2 hd hlk
theorem jx_ot : ∀ w ∈ Cond.classLink RX11 132 jExN :: Cond.initialized jExN :: jx_atW, vx_ot w = true := by
  have h : (Cond.classLink RX11 132 jExN :: Cond.initialized jExN :: jx_atW).all vx_ot = true := by decide +kernel
  exact List.all_eq_true.mp h
theorem jx_bad : ∀ w ∈ (jx_atW).filter (fun w => !goodWord w), w ∈ [Cond.castable jExN jExN, Cond.declares ⟨"java/lang/RuntimeException", "<init>", "(Ljava/lang/String;)V"⟩, Cond.declares ⟨"java/lang/Exception", "<init>", "(Ljava/lang/String;)V"⟩, Cond.declares ⟨"java/lang/Throwable", "<init>", "(Ljava/lang/String;)V"⟩] := by decide +kernel
theorem j_throw {X : jX} {l : Launch} {G : jG} {nL : Nat} {Rm : Room} {cc : ByteArray} {Ts : List Cond} {sa : Nat → Nat} {ws w0 : va_W} {lv : List (Nat × Value)} {pc is si : Nat} {text : String} {r : Option Int32} (C : jC X l G nL Rm cc RX11 Ts) (hE : jEx X sa r w0) (hl : l.stackTraces = false)
    (hTs : ∀ w ∈ Cond.classLink RX11 132 jExN :: Cond.initialized jExN :: (jx_atW).filter goodWord, w ∈ Ts) (hRm : 6 ≤ Rm.frames ∧ 90 ≤ Rm.locals ∧ 1 ≤ Rm.cells ∧ 6 ≤ Rm.slots) (hq : (is, text, si) ∈ jXts)
    (d0 : decode cc pc = .ok (.new 132, 3)) (d3 : decode cc (pc + 3) = .ok (.dup, 1)) (d4 : decode cc (pc + 4) = .ok (.ldc is, 2)) (d6 : decode cc (pc + 6) = .ok (.invokespecial 136, 3)) (d9 : decode cc (pc + 9) = .ok (.athrow, 1)) (hr : r = none) (hw : w0 = ws) : J X 0 0 ws lv pc [] := by
  obtain ⟨⟨p, l', e, R, s, m, args, below, meth, c⟩, G', A, nL', Q⟩ := X
  obtain ⟨rfl, rfl, rfl, rfl, hx, hb, hml, hown, hts, hK, hlk, hAq, hFz⟩ := C
  intro H locs ls hP hD hS hl'
  obtain ⟨rfl, hret, hte, hZ1, hZ2, hZ3, hZ4, hZ5⟩ := hE
  subst hw
  have hat : ∀ w ∈ jx_atW, w.before args s = true := vx_hat (B := [Cond.castable jExN jExN, Cond.declares ⟨"java/lang/RuntimeException", "<init>", "(Ljava/lang/String;)V"⟩, Cond.declares ⟨"java/lang/Exception", "<init>", "(Ljava/lang/String;)V"⟩, Cond.declares ⟨"java/lang/Throwable", "<init>", "(Ljava/lang/String;)V"⟩])
    (fun w hw => hts w (hTs w (List.mem_cons_of_mem _ (List.mem_cons_of_mem _ hw)))) jx_bad (vx_c (va_Nw.use rfl hZ4) (vx_c (va_Nw.use rfl (hZ5 _ (List.mem_of_getElem? (i := 0) rfl))) (vx_c (va_Nw.use rfl (hZ5 _ (List.mem_of_getElem? (i := 1) rfl))) (vx_c (va_Nw.use rfl (hZ5 _ (List.mem_of_getElem? (i := 2) rfl))) vx_n))))
  refine jx_throwS (A := A) hx hb hl hown (hts _ (hTs _ List.mem_cons_self)) (hts _ (hTs _ (List.mem_cons_of_mem _ List.mem_cons_self))) (hZ3 _ hq) hat jx_ot hZ1 hZ2 hS (hl'.1.trans hml.symm) d0 d3 d4 d6 d9 (fun x hx => (hte x hx).elim) (Nat.lt_of_lt_of_le (by decide) hRm.1) (Nat.le_trans (by decide) hRm.2.1) hRm.2.2.1 hRm.2.2.2 hlk ?_ hS.2.2 (Nat.le_refl _) (Nat.le_refl _)
  intro t hal hsz hkp
  exact ⟨(), hr, ⟨rfl, hP.kept (fun k q hk => hkp q.1 (vx_lt hP hk))⟩, Nat.le_trans hS.1 hsz, fun q h1 h2 => (hkp q (Nat.lt_of_lt_of_le h1 hS.1)).trans (hS.2.1 q h1 h2)⟩
theorem jMx_of {l : Launch} {G : jG} {sa : Nat → Nat} {y : MethodName} {Ts Ts' : List Cond} {rm : Room} {av : List Value} {w0 : va_W} {r : Option Int32} {cc : ByteArray} {maxL : Nat} {own : String} {lv0 : List (Nat × Value)} (hy : plainName y.cls = true) (hw : Ts = Cond.code y cc maxL (some .int) :: Ts') (hown : y.cls = own) (hal : (lg_sl av).length ≤ maxL) (hlv : lv_args 0 av = lv0)
    (body : ∀ X : jX, jC X l G maxL rm cc own Ts → jEx X sa r w0 → J X 0 0 w0 lv0 0 []) : jMx l G sa y Ts rm av w0 r := by
  intro sz
  refine vx_ofW (cc := cc) (maxL := maxL) (ret := some .int) hy hw ?_
  intro p e s m args below meth c s₁ B hml hte hv
  obtain ⟨rfl, hsz, hP, hK, hD0, hFz, hZ⟩ := hv
  have hts := atoms_spec (ws := Ts) B.pre
  have hown' : s.vm.findClass own = some m.cls := by rw [← hown]; exact findClass_of_methodNamed B.named
  subst hsz
  have hl := lv_entry av (n := maxL) hal
  rw [lg_entry_eq]
  rw [hlv] at hl
  exact body ((p, l, e, (headSpec Ts rm).room, s, m, av.toArray, below, meth, c), G, va_A w0 s.heap.size, maxL, vx_MQ below (jXq G r w0 (va_A w0 s.heap.size)) (jXx G r w0 (va_A w0 s.heap.size)) av.toArray s 1 6 (va_A w0 s.heap.size))
    ⟨rfl, rfl, rfl, rfl, B.exec, B.bytes, hml, hown', hts, hK, B.notSynchronized, fun q h => Or.inr h, hFz⟩ ⟨rfl, B.returns, hte, hZ⟩ s.heap [] _ hP hD0.self va_S.rf hl
/-! ##### LendTown.person(II)I -/
abbrev rm_X11_person : Room := { frames := 6, cells := 1, slots := 6, locals := 90 }
theorem in_X11_person_X10 : ∀ w ∈ u_ws RX10 TX10 17, w ∈ wsX11_person := fun w h => List.mem_cons_of_mem _ (List.mem_append_left _ (List.mem_append_right _ (h)))
theorem in_X11_person_X11 : ∀ w ∈ u_ws RX11 TX11 14, w ∈ wsX11_person := fun w h => List.mem_cons_of_mem _ (List.mem_append_left _ (List.mem_append_left _ (List.mem_append_left _ (List.mem_append_right _ (h)))))
theorem in_X11_person_X8 : ∀ w ∈ u_ws RX8 TX8 3, w ∈ wsX11_person := fun w h => List.mem_cons_of_mem _ (List.mem_append_left _ (List.mem_append_left _ (List.mem_append_right _ (h))))
theorem fl_X11_person_63 : Cond.fieldLink RX11 63 "LendTown" "now" "LLendTown$State;" ∈ wsX11_person := List.mem_of_getElem? (i := 3) rfl
theorem fl_X11_person_111 : Cond.fieldLink RX11 111 "LendTown$State" "town" "LLendTown$Town;" ∈ wsX11_person := List.mem_of_getElem? (i := 4) rfl
theorem fl_X11_person_139 : Cond.fieldLink RX11 139 "LendTown$Town" "born" "[I" ∈ wsX11_person := List.mem_of_getElem? (i := 5) rfl
theorem fl_X11_person_143 : Cond.fieldLink RX11 143 "LendTown$Town" "dies" "[I" ∈ wsX11_person := List.mem_of_getElem? (i := 6) rfl
theorem fl_X11_person_146 : Cond.fieldLink RX11 146 "LendTown$Town" "limit" "[I" ∈ wsX11_person := List.mem_of_getElem? (i := 7) rfl
theorem fl_X11_person_149 : Cond.fieldLink RX11 149 "LendTown$Town" "toldParts" "I" ∈ wsX11_person := List.mem_of_getElem? (i := 8) rfl
theorem ht_X11_person : ∀ w ∈ Cond.classLink RX11 132 jExN :: Cond.initialized jExN :: (jx_atW).filter goodWord, w ∈ wsX11_person := fun w h => (List.mem_cons.mp h).elim (fun e => by rw [e]; exact List.mem_of_getElem? (i := 1) rfl) (fun h => (List.mem_cons.mp h).elim (fun e => by rw [e]; exact List.mem_of_getElem? (i := 2) rfl) (fun h => List.mem_cons_of_mem _ (List.mem_append_right _ h)))
def wd_X11_person (G : jG) (a_t : Nat) (a_t_now : Nat) (a_t_now_town : Nat) (a_t_now_town_born : Nat) (a_t_now_town_dies : Nat) (a_t_now_town_limit : Nat) (a_t_tape : Nat) (a_t_reader : Nat) (a_t_flow : Nat) (a_t_ring : Nat) (a_t_choice : Nat) (a_t_search : Nat) (a_t_meetings : Nat) (a_t_firstImage : Nat) (a_t_secondImage : Nat) (r_t_spare : Nat) (t_whyWrong : Int32) (t_changes : Int32) (t_refusals : Int32) (r_t_now_town : Nat) (a_t_now_book : Nat) (t_now_kept : Int32) (t_now_town_persons : Int32) (t_now_town_deals : Int32) (t_now_town_lawYears : Int32) (t_now_town_toldParts : Int32) (a_t_now_town_personNames : Nat) (a_t_now_town_dealNames : Nat) (a_t_now_town_lender : Nat) (a_t_now_town_borrower : Nat) (a_t_now_town_year : Nat) (a_t_now_town_lenderGain : Nat) (a_t_now_town_borrowerGain : Nat) (a_t_now_town_either : Nat) (a_t_now_town_byYear : Nat) (a_t_now_town_memo : Nat) (t_now_town_born : Nat → Int32) (t_now_town_dies : Nat → Int32) (t_now_town_limit : Nat → Int32) : va_W := [(a_t, .inr (11, [.ref a_t_tape, .ref a_t_reader, .ref a_t_flow, .ref a_t_ring, .ref a_t_choice, .ref a_t_search, .ref a_t_meetings, .ref a_t_now, .ref a_t_firstImage, .ref a_t_secondImage, .ref r_t_spare, .int t_whyWrong, .int t_changes, .int t_refusals])), (a_t_now, .inr (8, [.ref r_t_now_town, .ref a_t_now_book, .int t_now_kept])), (a_t_now_town, .inr (10, [.int t_now_town_persons, .int t_now_town_deals, .int t_now_town_lawYears, .int t_now_town_toldParts, .ref a_t_now_town_personNames, .ref a_t_now_town_born, .ref a_t_now_town_dies, .ref a_t_now_town_limit, .ref a_t_now_town_dealNames, .ref a_t_now_town_lender, .ref a_t_now_town_borrower, .ref a_t_now_town_year, .ref a_t_now_town_lenderGain, .ref a_t_now_town_borrowerGain, .ref a_t_now_town_either, .ref a_t_now_town_byYear, .ref a_t_now_town_memo])), (a_t_now_town_born, .inl (G.2.2.1, 10, .inl t_now_town_born)), (a_t_now_town_dies, .inl (G.2.2.1, 10, .inl t_now_town_dies)), (a_t_now_town_limit, .inl (G.2.2.1, 10, .inl t_now_town_limit))]
set_option maxHeartbeats 8000000 in
set_option maxRecDepth 100000 in
theorem ct_X11_person (l : Launch) (hl : l.stackTraces = false) (G : jG) (sa : Nat → Nat) (a_t : Nat) (a_t_now : Nat) (a_t_now_town : Nat) (a_t_now_town_born : Nat) (a_t_now_town_dies : Nat) (a_t_now_town_limit : Nat) (a_t_tape : Nat) (a_t_reader : Nat) (a_t_flow : Nat) (a_t_ring : Nat) (a_t_choice : Nat) (a_t_search : Nat) (a_t_meetings : Nat) (a_t_firstImage : Nat) (a_t_secondImage : Nat) (a_t_spare : Nat) (t_whyWrong : Int32) (t_changes : Int32) (t_refusals : Int32) (a_t_now_book : Nat) (t_now_kept : Int32) (t_now_town_persons : Int32) (t_now_town_deals : Int32) (t_now_town_lawYears : Int32) (t_now_town_toldParts : Int32) (a_t_now_town_personNames : Nat) (a_t_now_town_dealNames : Nat) (a_t_now_town_lender : Nat) (a_t_now_town_borrower : Nat) (a_t_now_town_year : Nat) (a_t_now_town_lenderGain : Nat) (a_t_now_town_borrowerGain : Nat) (a_t_now_town_either : Nat) (a_t_now_town_byYear : Nat) (a_t_now_town_memo : Nat) (t_now_town_born : Nat → Int32) (t_now_town_dies : Nat → Int32) (t_now_town_limit : Nat → Int32) (p1 : Int32) (p2 : Int32) (r : Option Int32) (hd : dn_X11_person t_now_town_persons t_now_town_toldParts t_now_town_born t_now_town_dies t_now_town_limit p1 p2 = some r) : jMx l G sa yX11_person wsX11_person rm_X11_person [.ref a_t, .int p1, .int p2] (wd_X11_person G a_t a_t_now a_t_now_town a_t_now_town_born a_t_now_town_dies a_t_now_town_limit a_t_tape a_t_reader a_t_flow a_t_ring a_t_choice a_t_search a_t_meetings a_t_firstImage a_t_secondImage a_t_spare t_whyWrong t_changes t_refusals a_t_now_town a_t_now_book t_now_kept t_now_town_persons t_now_town_deals t_now_town_lawYears t_now_town_toldParts a_t_now_town_personNames a_t_now_town_dealNames a_t_now_town_lender a_t_now_town_borrower a_t_now_town_year a_t_now_town_lenderGain a_t_now_town_borrowerGain a_t_now_town_either a_t_now_town_byYear a_t_now_town_memo t_now_town_born t_now_town_dies t_now_town_limit) r := by
  refine jMx_of (own := RX11) (by decide) rfl rfl (Nat.le_of_ble_eq_true rfl) (lv0 := [(0, .ref a_t), (1, .int p1), (2, .int p2)]) rfl (fun X C hE => ?_)
  unfold dn_X11_person at hd
  refine j_aload_n (pc := 0) C dX11_person_0 rfl 0 rfl ?_
  refine j_get (pc := 1) (q0 := 0) (ci := 11) (kf := 7) C dX11_person_1 in_X11_person_X11 rfl (by decide) fl_X11_person_63 rfl rfl ?_
  refine j_get (pc := 4) (q0 := 1) (ci := 8) (kf := 0) C dX11_person_4 in_X11_person_X8 rfl (by decide) fl_X11_person_111 rfl rfl ?_
  refine j_astore_n (pc := 7) (lv2 := [(1, .int p1), (2, .int p2), (3, .ref a_t_now_town)]) C dX11_person_7 rfl (by decide) [2, 3, 0] rfl ?_
  refine j_aload_n (pc := 8) C dX11_person_8 rfl 2 rfl ?_
  refine j_iload_n (pc := 9) C dX11_person_9 rfl 0 rfl ?_
  obtain ⟨q1, eq1, hd⟩ := ob_bind hd
  refine j_callV (pc := 10) (q0 := 2) (ci := 10) (As := [.int p1]) (rest := []) (st2 := [.int (b2i q1)]) (ws2 := wd_X11_person G a_t a_t_now a_t_now_town a_t_now_town_born a_t_now_town_dies a_t_now_town_limit a_t_tape a_t_reader a_t_flow a_t_ring a_t_choice a_t_search a_t_meetings a_t_firstImage a_t_secondImage a_t_spare t_whyWrong t_changes t_refusals a_t_now_town a_t_now_book t_now_kept t_now_town_persons t_now_town_deals t_now_town_lawYears t_now_town_toldParts a_t_now_town_personNames a_t_now_town_dealNames a_t_now_town_lender a_t_now_town_borrower a_t_now_town_year a_t_now_town_lenderGain a_t_now_town_borrowerGain a_t_now_town_either a_t_now_town_byYear a_t_now_town_memo t_now_town_born t_now_town_dies t_now_town_limit) C (ct_X10_hasPerson l G a_t_now_town t_now_town_persons t_now_town_deals t_now_town_lawYears t_now_town_toldParts a_t_now_town_personNames a_t_now_town_born a_t_now_town_dies a_t_now_town_limit a_t_now_town_dealNames a_t_now_town_lender a_t_now_town_borrower a_t_now_town_year a_t_now_town_lenderGain a_t_now_town_borrowerGain a_t_now_town_either a_t_now_town_byYear a_t_now_town_memo p1 q1 eq1) jy_X10_hasPerson dX11_person_10 gX11_person_X10_hasPerson rfl rfl (by decide) ⟨Nat.zero_le _, Nat.zero_le _⟩ [2] rfl rfl (jpt_eq rfl rfl rfl) rfl rfl rfl (Nat.le_of_ble_eq_true rfl) rfl ?_
  refine j_ifb_eq (pc := 13) (tgt := 25) C dX11_person_13 (by decide) (fun c2 => ?_) (fun c2 => ?_)
  · have hd := ob_neg c2 hd
    obtain rfl := Option.some.inj hd
    exact j_throw (pc := 25) (is := 134) (si := 0) C hE hl (ht_X11_person) (by decide) (List.mem_of_getElem? (i := 0) rfl) dX11_person_25 dX11_person_28 dX11_person_29 dX11_person_31 dX11_person_34 rfl rfl
  · have hd := ob_pos c2 hd
    refine j_iload_n (pc := 16) C dX11_person_16 rfl 1 rfl ?_
    refine j_if_lt (pc := 17) (tgt := 25) C dX11_person_17 (by decide) (fun c3 => ?_) (fun c3 => ?_)
    · have hd := ob_pos c3 hd
      obtain rfl := Option.some.inj hd
      exact j_throw (pc := 25) (is := 134) (si := 0) C hE hl (ht_X11_person) (by decide) (List.mem_of_getElem? (i := 0) rfl) dX11_person_25 dX11_person_28 dX11_person_29 dX11_person_31 dX11_person_34 rfl rfl
    · have hd := ob_neg c3 hd
      refine j_iload_n (pc := 20) C dX11_person_20 rfl 1 rfl ?_
      refine j_iconst (pc := 21) (v := 3) C dX11_person_21 jk_I3 ?_
      refine j_icmp_le (pc := 22) (tgt := 35) C dX11_person_22 (by decide) (fun c4 => ?_) (fun c4 => ?_)
      · have hd := ob_pos c4 hd
        refine j_iload_n (pc := 35) C dX11_person_35 rfl 1 rfl ?_
        by_cases c5 : p2 = 0
        · have hd := ob_pos c5 hd
          refine j_tsIn (pc := 36) (tgt := 64) C dX11_person_36 0 (by rw [c5]; decide) (by decide) (by decide) rfl (by decide) ?_
          refine j_aload_n (pc := 64) C dX11_person_64 rfl 2 rfl ?_
          refine j_get (pc := 65) (q0 := 2) (ci := 10) (kf := 5) C dX11_person_65 in_X11_person_X10 rfl (by decide) fl_X11_person_139 rfl rfl ?_
          refine j_iload_n (pc := 68) C dX11_person_68 rfl 0 rfl ?_
          obtain ⟨h6, hd⟩ := ob_chk hd
          refine j_iald (pc := 69) (q0 := 3) C dX11_person_69 rfl h6 ?_
          obtain rfl := Option.some.inj hd
          exact j_xret (pc := 70) C hE dX11_person_70 rfl rfl
        have hd := ob_neg c5 hd
        by_cases c7 : p2 = 1
        · have hd := ob_pos c7 hd
          refine j_tsIn (pc := 36) (tgt := 71) C dX11_person_36 1 (by rw [c7]; decide) (by decide) (by decide) rfl (by decide) ?_
          refine j_aload_n (pc := 71) C dX11_person_71 rfl 2 rfl ?_
          refine j_get (pc := 72) (q0 := 2) (ci := 10) (kf := 6) C dX11_person_72 in_X11_person_X10 rfl (by decide) fl_X11_person_143 rfl rfl ?_
          refine j_iload_n (pc := 75) C dX11_person_75 rfl 0 rfl ?_
          obtain ⟨h8, hd⟩ := ob_chk hd
          refine j_iald (pc := 76) (q0 := 4) C dX11_person_76 rfl h8 ?_
          obtain rfl := Option.some.inj hd
          exact j_xret (pc := 77) C hE dX11_person_77 rfl rfl
        have hd := ob_neg c7 hd
        by_cases c9 : p2 = 2
        · have hd := ob_pos c9 hd
          refine j_tsIn (pc := 36) (tgt := 78) C dX11_person_36 2 (by rw [c9]; decide) (by decide) (by decide) rfl (by decide) ?_
          refine j_aload_n (pc := 78) C dX11_person_78 rfl 2 rfl ?_
          refine j_get (pc := 79) (q0 := 2) (ci := 10) (kf := 7) C dX11_person_79 in_X11_person_X10 rfl (by decide) fl_X11_person_146 rfl rfl ?_
          refine j_iload_n (pc := 82) C dX11_person_82 rfl 0 rfl ?_
          obtain ⟨h10, hd⟩ := ob_chk hd
          refine j_iald (pc := 83) (q0 := 5) C dX11_person_83 rfl h10 ?_
          obtain rfl := Option.some.inj hd
          exact j_xret (pc := 84) C hE dX11_person_84 rfl rfl
        have hd := ob_neg c9 hd
        have ec5 : (p2).toInt ≠ 0 := fun q => c5 (Int32.toInt_inj.mp (q.trans (by decide)))
        have ec7 : (p2).toInt ≠ 1 := fun q => c7 (Int32.toInt_inj.mp (q.trans (by decide)))
        have ec9 : (p2).toInt ≠ 2 := fun q => c9 (Int32.toInt_inj.mp (q.trans (by decide)))
        refine j_tsOut (pc := 36) (tgt := 85) C dX11_person_36 (by omega) (by decide) ?_
        refine j_aload_n (pc := 85) C dX11_person_85 rfl 2 rfl ?_
        refine j_get (pc := 86) (q0 := 2) (ci := 10) (kf := 3) C dX11_person_86 in_X11_person_X10 rfl (by decide) fl_X11_person_149 rfl rfl ?_
        refine j_iload_n (pc := 89) C dX11_person_89 rfl 0 rfl ?_
        refine j_ishr (pc := 90) C dX11_person_90 ?_
        refine j_iconst (pc := 91) (v := 1) C dX11_person_91 jk_I1 ?_
        refine j_iand (pc := 92) C dX11_person_92 ?_
        obtain rfl := Option.some.inj hd
        exact j_xret (pc := 93) C hE dX11_person_93 rfl rfl
      · have hd := ob_neg c4 hd
        obtain rfl := Option.some.inj hd
        exact j_throw (pc := 25) (is := 134) (si := 0) C hE hl (ht_X11_person) (by decide) (List.mem_of_getElem? (i := 0) rfl) dX11_person_25 dX11_person_28 dX11_person_29 dX11_person_31 dX11_person_34 rfl rfl
/-! ##### LendTown.deal(II)I -/
abbrev rm_X11_deal : Room := { frames := 6, cells := 1, slots := 6, locals := 90 }
theorem in_X11_deal_X10 : ∀ w ∈ u_ws RX10 TX10 17, w ∈ wsX11_deal := fun w h => List.mem_cons_of_mem _ (List.mem_append_left _ (List.mem_append_left _ (List.mem_append_right _ (h))))
theorem in_X11_deal_X11 : ∀ w ∈ u_ws RX11 TX11 14, w ∈ wsX11_deal := fun w h => List.mem_cons_of_mem _ (List.mem_append_left _ (List.mem_append_left _ (List.mem_append_left _ (List.mem_append_left _ (List.mem_append_right _ (h))))))
theorem in_X11_deal_X8 : ∀ w ∈ u_ws RX8 TX8 3, w ∈ wsX11_deal := fun w h => List.mem_cons_of_mem _ (List.mem_append_left _ (List.mem_append_left _ (List.mem_append_left _ (List.mem_append_right _ (h)))))
theorem fl_X11_deal_63 : Cond.fieldLink RX11 63 "LendTown" "now" "LLendTown$State;" ∈ wsX11_deal := List.mem_of_getElem? (i := 3) rfl
theorem fl_X11_deal_111 : Cond.fieldLink RX11 111 "LendTown$State" "town" "LLendTown$Town;" ∈ wsX11_deal := List.mem_of_getElem? (i := 4) rfl
theorem fl_X11_deal_157 : Cond.fieldLink RX11 157 "LendTown$Town" "lender" "[I" ∈ wsX11_deal := List.mem_of_getElem? (i := 5) rfl
theorem fl_X11_deal_160 : Cond.fieldLink RX11 160 "LendTown$Town" "borrower" "[I" ∈ wsX11_deal := List.mem_of_getElem? (i := 6) rfl
theorem fl_X11_deal_163 : Cond.fieldLink RX11 163 "LendTown$Town" "year" "[I" ∈ wsX11_deal := List.mem_of_getElem? (i := 7) rfl
theorem fl_X11_deal_166 : Cond.fieldLink RX11 166 "LendTown$Town" "lenderGain" "[I" ∈ wsX11_deal := List.mem_of_getElem? (i := 8) rfl
theorem fl_X11_deal_169 : Cond.fieldLink RX11 169 "LendTown$Town" "borrowerGain" "[I" ∈ wsX11_deal := List.mem_of_getElem? (i := 9) rfl
theorem fl_X11_deal_172 : Cond.fieldLink RX11 172 "LendTown$Town" "either" "[I" ∈ wsX11_deal := List.mem_of_getElem? (i := 10) rfl
theorem fl_X11_deal_114 : Cond.fieldLink RX11 114 "LendTown$State" "book" "LLendTown$Book;" ∈ wsX11_deal := List.mem_of_getElem? (i := 11) rfl
theorem ht_X11_deal : ∀ w ∈ Cond.classLink RX11 132 jExN :: Cond.initialized jExN :: (jx_atW).filter goodWord, w ∈ wsX11_deal := fun w h => (List.mem_cons.mp h).elim (fun e => by rw [e]; exact List.mem_of_getElem? (i := 1) rfl) (fun h => (List.mem_cons.mp h).elim (fun e => by rw [e]; exact List.mem_of_getElem? (i := 2) rfl) (fun h => List.mem_cons_of_mem _ (List.mem_append_right _ h)))
def wd_X11_deal (G : jG) (a_t : Nat) (a_t_now : Nat) (a_t_now_book : Nat) (a_t_now_book_deal : Nat) (a_t_now_book_way : Nat) (a_t_now_town : Nat) (a_t_now_town_borrower : Nat) (a_t_now_town_borrowerGain : Nat) (a_t_now_town_either : Nat) (a_t_now_town_lender : Nat) (a_t_now_town_lenderGain : Nat) (a_t_now_town_year : Nat) (a_t_tape : Nat) (a_t_reader : Nat) (a_t_flow : Nat) (a_t_ring : Nat) (a_t_choice : Nat) (a_t_search : Nat) (a_t_meetings : Nat) (a_t_firstImage : Nat) (a_t_secondImage : Nat) (r_t_spare : Nat) (t_whyWrong : Int32) (t_changes : Int32) (t_refusals : Int32) (r_t_now_town : Nat) (t_now_kept : Int32) (a_t_now_book_foundNothing : Nat) (t_now_book_size : Int32) (t_now_book_deal : Nat → Int32) (t_now_book_way : Nat → Int32) (t_now_town_persons : Int32) (t_now_town_deals : Int32) (t_now_town_lawYears : Int32) (t_now_town_toldParts : Int32) (a_t_now_town_personNames : Nat) (a_t_now_town_born : Nat) (a_t_now_town_dies : Nat) (a_t_now_town_limit : Nat) (a_t_now_town_dealNames : Nat) (a_t_now_town_byYear : Nat) (a_t_now_town_memo : Nat) (t_now_town_borrower : Nat → Int32) (t_now_town_borrowerGain : Nat → Int32) (t_now_town_either : Nat → Int32) (t_now_town_lender : Nat → Int32) (t_now_town_lenderGain : Nat → Int32) (t_now_town_year : Nat → Int32) : va_W := [(a_t, .inr (11, [.ref a_t_tape, .ref a_t_reader, .ref a_t_flow, .ref a_t_ring, .ref a_t_choice, .ref a_t_search, .ref a_t_meetings, .ref a_t_now, .ref a_t_firstImage, .ref a_t_secondImage, .ref r_t_spare, .int t_whyWrong, .int t_changes, .int t_refusals])), (a_t_now, .inr (8, [.ref r_t_now_town, .ref a_t_now_book, .int t_now_kept])), (a_t_now_book, .inr (0, [.ref a_t_now_book_deal, .ref a_t_now_book_way, .ref a_t_now_book_foundNothing, .int t_now_book_size])), (a_t_now_book_deal, .inl (G.2.2.1, 30, .inl t_now_book_deal)), (a_t_now_book_way, .inl (G.2.2.1, 30, .inl t_now_book_way)), (a_t_now_town, .inr (10, [.int t_now_town_persons, .int t_now_town_deals, .int t_now_town_lawYears, .int t_now_town_toldParts, .ref a_t_now_town_personNames, .ref a_t_now_town_born, .ref a_t_now_town_dies, .ref a_t_now_town_limit, .ref a_t_now_town_dealNames, .ref a_t_now_town_lender, .ref a_t_now_town_borrower, .ref a_t_now_town_year, .ref a_t_now_town_lenderGain, .ref a_t_now_town_borrowerGain, .ref a_t_now_town_either, .ref a_t_now_town_byYear, .ref a_t_now_town_memo])), (a_t_now_town_borrower, .inl (G.2.2.1, 30, .inl t_now_town_borrower)), (a_t_now_town_borrowerGain, .inl (G.2.2.1, 30, .inl t_now_town_borrowerGain)), (a_t_now_town_either, .inl (G.2.2.1, 30, .inl t_now_town_either)), (a_t_now_town_lender, .inl (G.2.2.1, 30, .inl t_now_town_lender)), (a_t_now_town_lenderGain, .inl (G.2.2.1, 30, .inl t_now_town_lenderGain)), (a_t_now_town_year, .inl (G.2.2.1, 30, .inl t_now_town_year))]
set_option maxHeartbeats 8000000 in
set_option maxRecDepth 100000 in
theorem ct_X11_deal (l : Launch) (hl : l.stackTraces = false) (G : jG) (sa : Nat → Nat) (a_t : Nat) (a_t_now : Nat) (a_t_now_book : Nat) (a_t_now_book_deal : Nat) (a_t_now_book_way : Nat) (a_t_now_town : Nat) (a_t_now_town_borrower : Nat) (a_t_now_town_borrowerGain : Nat) (a_t_now_town_either : Nat) (a_t_now_town_lender : Nat) (a_t_now_town_lenderGain : Nat) (a_t_now_town_year : Nat) (a_t_tape : Nat) (a_t_reader : Nat) (a_t_flow : Nat) (a_t_ring : Nat) (a_t_choice : Nat) (a_t_search : Nat) (a_t_meetings : Nat) (a_t_firstImage : Nat) (a_t_secondImage : Nat) (a_t_spare : Nat) (t_whyWrong : Int32) (t_changes : Int32) (t_refusals : Int32) (t_now_kept : Int32) (a_t_now_book_foundNothing : Nat) (t_now_book_size : Int32) (t_now_book_deal : Nat → Int32) (t_now_book_way : Nat → Int32) (t_now_town_persons : Int32) (t_now_town_deals : Int32) (t_now_town_lawYears : Int32) (t_now_town_toldParts : Int32) (a_t_now_town_personNames : Nat) (a_t_now_town_born : Nat) (a_t_now_town_dies : Nat) (a_t_now_town_limit : Nat) (a_t_now_town_dealNames : Nat) (a_t_now_town_byYear : Nat) (a_t_now_town_memo : Nat) (t_now_town_borrower : Nat → Int32) (t_now_town_borrowerGain : Nat → Int32) (t_now_town_either : Nat → Int32) (t_now_town_lender : Nat → Int32) (t_now_town_lenderGain : Nat → Int32) (t_now_town_year : Nat → Int32) (p1 : Int32) (p2 : Int32) (r : Option Int32) (hd : dn_X11_deal t_now_book_size t_now_book_deal t_now_book_way t_now_town_deals t_now_town_borrower t_now_town_borrowerGain t_now_town_either t_now_town_lender t_now_town_lenderGain t_now_town_year p1 p2 = some r) : jMx l G sa yX11_deal wsX11_deal rm_X11_deal [.ref a_t, .int p1, .int p2] (wd_X11_deal G a_t a_t_now a_t_now_book a_t_now_book_deal a_t_now_book_way a_t_now_town a_t_now_town_borrower a_t_now_town_borrowerGain a_t_now_town_either a_t_now_town_lender a_t_now_town_lenderGain a_t_now_town_year a_t_tape a_t_reader a_t_flow a_t_ring a_t_choice a_t_search a_t_meetings a_t_firstImage a_t_secondImage a_t_spare t_whyWrong t_changes t_refusals a_t_now_town t_now_kept a_t_now_book_foundNothing t_now_book_size t_now_book_deal t_now_book_way t_now_town_persons t_now_town_deals t_now_town_lawYears t_now_town_toldParts a_t_now_town_personNames a_t_now_town_born a_t_now_town_dies a_t_now_town_limit a_t_now_town_dealNames a_t_now_town_byYear a_t_now_town_memo t_now_town_borrower t_now_town_borrowerGain t_now_town_either t_now_town_lender t_now_town_lenderGain t_now_town_year) r := by
  refine jMx_of (own := RX11) (by decide) rfl rfl (Nat.le_of_ble_eq_true rfl) (lv0 := [(0, .ref a_t), (1, .int p1), (2, .int p2)]) rfl (fun X C hE => ?_)
  unfold dn_X11_deal at hd
  refine j_aload_n (pc := 0) C dX11_deal_0 rfl 0 rfl ?_
  refine j_get (pc := 1) (q0 := 0) (ci := 11) (kf := 7) C dX11_deal_1 in_X11_deal_X11 rfl (by decide) fl_X11_deal_63 rfl rfl ?_
  refine j_get (pc := 4) (q0 := 1) (ci := 8) (kf := 0) C dX11_deal_4 in_X11_deal_X8 rfl (by decide) fl_X11_deal_111 rfl rfl ?_
  refine j_astore_n (pc := 7) (lv2 := [(0, .ref a_t), (1, .int p1), (2, .int p2), (3, .ref a_t_now_town)]) C dX11_deal_7 rfl (by decide) [1, 2, 3, 0] rfl ?_
  refine j_aload_n (pc := 8) C dX11_deal_8 rfl 3 rfl ?_
  refine j_iload_n (pc := 9) C dX11_deal_9 rfl 1 rfl ?_
  obtain ⟨q1, eq1, hd⟩ := ob_bind hd
  refine j_callV (pc := 10) (q0 := 5) (ci := 10) (As := [.int p1]) (rest := []) (st2 := [.int (b2i q1)]) (ws2 := wd_X11_deal G a_t a_t_now a_t_now_book a_t_now_book_deal a_t_now_book_way a_t_now_town a_t_now_town_borrower a_t_now_town_borrowerGain a_t_now_town_either a_t_now_town_lender a_t_now_town_lenderGain a_t_now_town_year a_t_tape a_t_reader a_t_flow a_t_ring a_t_choice a_t_search a_t_meetings a_t_firstImage a_t_secondImage a_t_spare t_whyWrong t_changes t_refusals a_t_now_town t_now_kept a_t_now_book_foundNothing t_now_book_size t_now_book_deal t_now_book_way t_now_town_persons t_now_town_deals t_now_town_lawYears t_now_town_toldParts a_t_now_town_personNames a_t_now_town_born a_t_now_town_dies a_t_now_town_limit a_t_now_town_dealNames a_t_now_town_byYear a_t_now_town_memo t_now_town_borrower t_now_town_borrowerGain t_now_town_either t_now_town_lender t_now_town_lenderGain t_now_town_year) C (ct_X10_hasDeal l G a_t_now_town t_now_town_persons t_now_town_deals t_now_town_lawYears t_now_town_toldParts a_t_now_town_personNames a_t_now_town_born a_t_now_town_dies a_t_now_town_limit a_t_now_town_dealNames a_t_now_town_lender a_t_now_town_borrower a_t_now_town_year a_t_now_town_lenderGain a_t_now_town_borrowerGain a_t_now_town_either a_t_now_town_byYear a_t_now_town_memo p1 q1 eq1) jy_X10_hasDeal dX11_deal_10 gX11_deal_X10_hasDeal rfl rfl (by decide) ⟨Nat.zero_le _, Nat.zero_le _⟩ [5] rfl rfl (jpt_eq rfl rfl rfl) rfl rfl rfl (Nat.le_of_ble_eq_true rfl) rfl ?_
  refine j_ifb_eq (pc := 13) (tgt := 26) C dX11_deal_13 (by decide) (fun c2 => ?_) (fun c2 => ?_)
  · have hd := ob_neg c2 hd
    obtain rfl := Option.some.inj hd
    exact j_throw (pc := 26) (is := 155) (si := 1) C hE hl (ht_X11_deal) (by decide) (List.mem_of_getElem? (i := 1) rfl) dX11_deal_26 dX11_deal_29 dX11_deal_30 dX11_deal_32 dX11_deal_35 rfl rfl
  · have hd := ob_pos c2 hd
    refine j_iload_n (pc := 16) C dX11_deal_16 rfl 2 rfl ?_
    refine j_if_lt (pc := 17) (tgt := 26) C dX11_deal_17 (by decide) (fun c3 => ?_) (fun c3 => ?_)
    · have hd := ob_pos c3 hd
      obtain rfl := Option.some.inj hd
      exact j_throw (pc := 26) (is := 155) (si := 1) C hE hl (ht_X11_deal) (by decide) (List.mem_of_getElem? (i := 1) rfl) dX11_deal_26 dX11_deal_29 dX11_deal_30 dX11_deal_32 dX11_deal_35 rfl rfl
    · have hd := ob_neg c3 hd
      refine j_iload_n (pc := 20) C dX11_deal_20 rfl 2 rfl ?_
      refine j_bipush (pc := 21) (v := 6) C dX11_deal_21 jk_B6 ?_
      refine j_icmp_le (pc := 23) (tgt := 36) C dX11_deal_23 (by decide) (fun c4 => ?_) (fun c4 => ?_)
      · have hd := ob_pos c4 hd
        refine j_iload_n (pc := 36) C dX11_deal_36 rfl 2 rfl ?_
        by_cases c5 : p2 = 0
        · have hd := ob_pos c5 hd
          refine j_tsIn (pc := 37) (tgt := 76) C dX11_deal_37 0 (by rw [c5]; decide) (by decide) (by decide) rfl (by decide) ?_
          refine j_aload_n (pc := 76) C dX11_deal_76 rfl 3 rfl ?_
          refine j_get (pc := 77) (q0 := 5) (ci := 10) (kf := 9) C dX11_deal_77 in_X11_deal_X10 rfl (by decide) fl_X11_deal_157 rfl rfl ?_
          refine j_iload_n (pc := 80) C dX11_deal_80 rfl 1 rfl ?_
          obtain ⟨h6, hd⟩ := ob_chk hd
          refine j_iald (pc := 81) (q0 := 9) C dX11_deal_81 rfl h6 ?_
          obtain rfl := Option.some.inj hd
          exact j_xret (pc := 82) C hE dX11_deal_82 rfl rfl
        have hd := ob_neg c5 hd
        by_cases c7 : p2 = 1
        · have hd := ob_pos c7 hd
          refine j_tsIn (pc := 37) (tgt := 83) C dX11_deal_37 1 (by rw [c7]; decide) (by decide) (by decide) rfl (by decide) ?_
          refine j_aload_n (pc := 83) C dX11_deal_83 rfl 3 rfl ?_
          refine j_get (pc := 84) (q0 := 5) (ci := 10) (kf := 10) C dX11_deal_84 in_X11_deal_X10 rfl (by decide) fl_X11_deal_160 rfl rfl ?_
          refine j_iload_n (pc := 87) C dX11_deal_87 rfl 1 rfl ?_
          obtain ⟨h8, hd⟩ := ob_chk hd
          refine j_iald (pc := 88) (q0 := 6) C dX11_deal_88 rfl h8 ?_
          obtain rfl := Option.some.inj hd
          exact j_xret (pc := 89) C hE dX11_deal_89 rfl rfl
        have hd := ob_neg c7 hd
        by_cases c9 : p2 = 2
        · have hd := ob_pos c9 hd
          refine j_tsIn (pc := 37) (tgt := 90) C dX11_deal_37 2 (by rw [c9]; decide) (by decide) (by decide) rfl (by decide) ?_
          refine j_aload_n (pc := 90) C dX11_deal_90 rfl 3 rfl ?_
          refine j_get (pc := 91) (q0 := 5) (ci := 10) (kf := 11) C dX11_deal_91 in_X11_deal_X10 rfl (by decide) fl_X11_deal_163 rfl rfl ?_
          refine j_iload_n (pc := 94) C dX11_deal_94 rfl 1 rfl ?_
          obtain ⟨h10, hd⟩ := ob_chk hd
          refine j_iald (pc := 95) (q0 := 11) C dX11_deal_95 rfl h10 ?_
          obtain rfl := Option.some.inj hd
          exact j_xret (pc := 96) C hE dX11_deal_96 rfl rfl
        have hd := ob_neg c9 hd
        by_cases c11 : p2 = 3
        · have hd := ob_pos c11 hd
          refine j_tsIn (pc := 37) (tgt := 97) C dX11_deal_37 3 (by rw [c11]; decide) (by decide) (by decide) rfl (by decide) ?_
          refine j_aload_n (pc := 97) C dX11_deal_97 rfl 3 rfl ?_
          refine j_get (pc := 98) (q0 := 5) (ci := 10) (kf := 12) C dX11_deal_98 in_X11_deal_X10 rfl (by decide) fl_X11_deal_166 rfl rfl ?_
          refine j_iload_n (pc := 101) C dX11_deal_101 rfl 1 rfl ?_
          obtain ⟨h12, hd⟩ := ob_chk hd
          refine j_iald (pc := 102) (q0 := 10) C dX11_deal_102 rfl h12 ?_
          obtain rfl := Option.some.inj hd
          exact j_xret (pc := 103) C hE dX11_deal_103 rfl rfl
        have hd := ob_neg c11 hd
        by_cases c13 : p2 = 4
        · have hd := ob_pos c13 hd
          refine j_tsIn (pc := 37) (tgt := 104) C dX11_deal_37 4 (by rw [c13]; decide) (by decide) (by decide) rfl (by decide) ?_
          refine j_aload_n (pc := 104) C dX11_deal_104 rfl 3 rfl ?_
          refine j_get (pc := 105) (q0 := 5) (ci := 10) (kf := 13) C dX11_deal_105 in_X11_deal_X10 rfl (by decide) fl_X11_deal_169 rfl rfl ?_
          refine j_iload_n (pc := 108) C dX11_deal_108 rfl 1 rfl ?_
          obtain ⟨h14, hd⟩ := ob_chk hd
          refine j_iald (pc := 109) (q0 := 7) C dX11_deal_109 rfl h14 ?_
          obtain rfl := Option.some.inj hd
          exact j_xret (pc := 110) C hE dX11_deal_110 rfl rfl
        have hd := ob_neg c13 hd
        by_cases c15 : p2 = 5
        · have hd := ob_pos c15 hd
          refine j_tsIn (pc := 37) (tgt := 111) C dX11_deal_37 5 (by rw [c15]; decide) (by decide) (by decide) rfl (by decide) ?_
          refine j_aload_n (pc := 111) C dX11_deal_111 rfl 3 rfl ?_
          refine j_get (pc := 112) (q0 := 5) (ci := 10) (kf := 14) C dX11_deal_112 in_X11_deal_X10 rfl (by decide) fl_X11_deal_172 rfl rfl ?_
          refine j_iload_n (pc := 115) C dX11_deal_115 rfl 1 rfl ?_
          obtain ⟨h16, hd⟩ := ob_chk hd
          refine j_iald (pc := 116) (q0 := 8) C dX11_deal_116 rfl h16 ?_
          obtain rfl := Option.some.inj hd
          exact j_xret (pc := 117) C hE dX11_deal_117 rfl rfl
        have hd := ob_neg c15 hd
        have ec5 : (p2).toInt ≠ 0 := fun q => c5 (Int32.toInt_inj.mp (q.trans (by decide)))
        have ec7 : (p2).toInt ≠ 1 := fun q => c7 (Int32.toInt_inj.mp (q.trans (by decide)))
        have ec9 : (p2).toInt ≠ 2 := fun q => c9 (Int32.toInt_inj.mp (q.trans (by decide)))
        have ec11 : (p2).toInt ≠ 3 := fun q => c11 (Int32.toInt_inj.mp (q.trans (by decide)))
        have ec13 : (p2).toInt ≠ 4 := fun q => c13 (Int32.toInt_inj.mp (q.trans (by decide)))
        have ec15 : (p2).toInt ≠ 5 := fun q => c15 (Int32.toInt_inj.mp (q.trans (by decide)))
        refine j_tsOut (pc := 37) (tgt := 118) C dX11_deal_37 (by omega) (by decide) ?_
        refine j_aload_n (pc := 118) C dX11_deal_118 rfl 0 rfl ?_
        refine j_get (pc := 119) (q0 := 0) (ci := 11) (kf := 7) C dX11_deal_119 in_X11_deal_X11 rfl (by decide) fl_X11_deal_63 rfl rfl ?_
        refine j_get (pc := 122) (q0 := 1) (ci := 8) (kf := 1) C dX11_deal_122 in_X11_deal_X8 rfl (by decide) fl_X11_deal_114 rfl rfl ?_
        refine j_iload_n (pc := 125) C dX11_deal_125 rfl 1 rfl ?_
        obtain ⟨q17, eq17, hd⟩ := ob_bind hd
        refine j_callV (pc := 126) (q0 := 2) (ci := 0) (As := [.int p1]) (rest := []) (st2 := [.int q17]) (ws2 := wd_X11_deal G a_t a_t_now a_t_now_book a_t_now_book_deal a_t_now_book_way a_t_now_town a_t_now_town_borrower a_t_now_town_borrowerGain a_t_now_town_either a_t_now_town_lender a_t_now_town_lenderGain a_t_now_town_year a_t_tape a_t_reader a_t_flow a_t_ring a_t_choice a_t_search a_t_meetings a_t_firstImage a_t_secondImage a_t_spare t_whyWrong t_changes t_refusals a_t_now_town t_now_kept a_t_now_book_foundNothing t_now_book_size t_now_book_deal t_now_book_way t_now_town_persons t_now_town_deals t_now_town_lawYears t_now_town_toldParts a_t_now_town_personNames a_t_now_town_born a_t_now_town_dies a_t_now_town_limit a_t_now_town_dealNames a_t_now_town_byYear a_t_now_town_memo t_now_town_borrower t_now_town_borrowerGain t_now_town_either t_now_town_lender t_now_town_lenderGain t_now_town_year) C (ct_X0_wayDone l G a_t_now_book a_t_now_book_deal a_t_now_book_way a_t_now_book_foundNothing t_now_book_size t_now_book_deal t_now_book_way p1 q17 eq17) jy_X0_wayDone dX11_deal_126 gX11_deal_X0_wayDone rfl rfl (by decide) ⟨Nat.zero_le _, Nat.zero_le _⟩ [2, 3, 4] rfl rfl (jpt_eq rfl rfl rfl) rfl rfl rfl (Nat.le_of_ble_eq_true rfl) rfl ?_
        obtain rfl := Option.some.inj hd
        exact j_xret (pc := 129) C hE dX11_deal_129 rfl rfl
      · have hd := ob_neg c4 hd
        obtain rfl := Option.some.inj hd
        exact j_throw (pc := 26) (is := 155) (si := 1) C hE hl (ht_X11_deal) (by decide) (List.mem_of_getElem? (i := 1) rfl) dX11_deal_26 dX11_deal_29 dX11_deal_30 dX11_deal_32 dX11_deal_35 rfl rfl
/-! ===== the law's wrappers: they call what may throw and catch it ===== -/
/-- like jM, with 1 cell and 6 slots for the caught one -/
def jMw (l : Launch) (G : jG) (sa : Nat → Nat) (y : MethodName) (Ts : List Cond) (rm : Room) (av : List Value) (w0 : va_W) (r : Option Value) (w1 : va_W) : Prop :=
  w1.map (·.1) = w0.map (·.1) ∧ ∀ sz : Nat, Met l y Ts rm (jPx G sa av w0 sz) (jQ G r w1 (va_A w0 sz)) 1 6 (va_A w0 sz)
def jEw (X : jX) (sa : Nat → Nat) (r : Option Value) (w1 : va_W) : Prop :=
  match X with
  | ((p, l, e, R, s, m, args, below, meth, c), G, A, nL, Q) => Q = MQ below (jQ G r w1 A) args s 1 6 A ∧ meth.sig.returnType = some .int ∧ c.exceptionTable.toList = tableOf [(0, 10, 13, 13)] ∧ jZ sa A s s.heap
theorem j_wret {X : jX} {l : Launch} {G : jG} {nL : Nat} {Rm : Room} {cc : ByteArray} {own : String} {Ts : List Cond} {sa : Nat → Nat} {ws w1 : va_W} {lv : List (Nat × Value)} {pc : Nat} {v : Int32} {r : Option Value} (C : jC X l G nL Rm cc own Ts) (hE : jEw X sa r w1) (hd : decode cc pc = .ok (.ireturn, 1)) (hr : r = some (.int v)) (hw : w1 = ws) : J X 1 6 ws lv pc [.int v] := by
  obtain ⟨⟨p, l', e, R, s, m, args, below, meth, c⟩, G', A, nL', Q⟩ := X
  obtain ⟨rfl, rfl, rfl, rfl, hx, hb, hml, hown, hts, hK, hlk, hAq, hFz⟩ := C
  intro H locs ls hP hD hS hl
  obtain ⟨rfl, hret, hte, hZ⟩ := hE
  subst hr hw
  exact W.iret hx hb hret (fun t ht hW => ⟨rfl, by rw [ht]; exact hP, hS.F ht⟩) hS.2.2 hd hlk
def jYx (y : MethodName) (wsy : List Cond) (rm : Room) (bytes : ByteArray) (maxL : Nat) (ret : Option FieldType) (na : Nat) : Prop :=
  (∃ wsy', wsy = .code y bytes maxL ret :: wsy') ∧ (rm.cells = 1 ∧ rm.slots = 6) ∧ y.cls ≠ "java/lang/invoke/MethodHandle" ∧ y.cls ≠ "java/lang/invoke/VarHandle" ∧ (parseMethodDescriptor y.desc).map (fun d => d.parameters.length) = some na
theorem j_callX {X : jX} {l : Launch} {G : jG} {nL : Nat} {Rm : Room} {cc : ByteArray} {Ts : List Cond} {sa : Nat → Nat} {ws : va_W} {lv : List (Nat × Value)} {pc : Nat} {st : List Value} {w0 w9 : va_W} {As rest : List Value} {r : Option Int32} {r9 : Option Value} {y : MethodName} {wsy : List Cond} {rm : Room} {bytes : ByteArray} {maxL ix na : Nat} {ret : Option FieldType} {Cn : String} {T0 : u_T} {N q0 ci b : Nat} {fs : List Value}
    (C : jC X l G nL Rm cc RL Ts) (hE : jEw X sa r9 w9) (hM : jMx l G sa y wsy rm (.ref b :: As) w0 r) (hY : jYx y wsy rm bytes maxL ret na) (hd : decode cc pc = .ok (.invokevirtual ix, 3)) (hG : GoodIn Ts (wsV RL ix Cn y wsy)) (hcn : y.cls = Cn) (hna : As.length = na) (hR : rm.frames + 1 ≤ Rm.frames ∧ 8 + (maxL + 11) + rm.locals ≤ Rm.locals) (hkn : 0 + 1 ≤ Rm.cells ∧ 0 + 6 ≤ Rm.slots) (isC : List Nat) (hC : isC.map (fun i => ws[i]?) = w0.map some) (hnd : va_nd isC = true) (hp2 : jpatch ws isC w0 = ws) (hcl : vwCl[ci]? = some (Cn, T0, N)) (he : ws[q0]? = some (b, .inr (ci, fs))) (hst : st = As.reverse ++ .ref b :: rest) (hcat : (rest.map fun v => v.category).sum ≤ 8)
    (hlk : Cond.classLink RL 13 jExN ∈ Ts) (hpc : pc < 10) (kx : r = none → ∀ q : Nat, J X 1 6 ws lv 13 [.ref q]) (kk : ∀ v : Int32, r = some v → J X 1 6 ws lv (pc + 3) (.int v :: rest)) : J X 0 0 ws lv pc st := by
  obtain ⟨⟨p, l', e, R, s, m, args, below, meth, c⟩, G', A, nL', Q⟩ := X
  obtain ⟨rfl, rfl, rfl, rfl, hx, hb, hml, hown, hts, hK, hlk9, hAq, hFz⟩ := C
  intro H locs ls hP hD hS hl
  subst hst
  obtain ⟨hQ, hret, hte, hZ⟩ := hE
  obtain ⟨⟨wsy', hw⟩, ⟨hz1, hz2⟩, hy1, hy2, hy3⟩ := hY
  have hF := va_free (wc := w0) hD hS hAq isC hC
  have hrun := vx_runV (p := p) (e := e) (meth := meth) (below := below) (H := H) (locs := locs) (cells := 0) (slots := 0) (As := As) (rest := rest) (g := F0 m pc ls (As.reverse ++ .ref b :: rest)) ⟨hx, hb, hml, hown, hts⟩ (hM H.size) (cwV na hts hG hw hz1 hz2 ⟨hcn, hy1, hy2, hy3⟩ hR) ⟨jPx_blind, va_recv hK hP hcl he, fun U hU hW => ⟨rfl, by rw [hU], by rw [hU]; exact hP.sub' isC hC, va_K.moved hW.alike hK, (hD.sub isC hnd hC).weaken (fun _ _ _ _ => trivial), by rw [hU]; exact hFz.at hS hF hW, by rw [hU]; exact hZ.at hS hF hW⟩⟩ rfl hna hl.1 rfl (lv_room hcat) hd hkn
  refine vx_calli hrun hS (fun q _ h => hF q h) hF (fun q _ h => hF q h) ?_ ?_
  · intro E ce q9 u t H1 locs1 ht hal hr hB hsz hkp hS1 hcell hv hcl9
    obtain ⟨rfl, hP1⟩ := hB
    obtain ⟨hP2, hD2⟩ := jpatch_ok isC hC rfl (va_nd_nodup hnd) hP hD hkp (by rw [← ht]; exact hP1)
    rw [hp2] at hP2 hD2
    exact vx_catch (name := jExN) hown [] ⟨0, 10, 13, 13⟩ [] hte (fun z hz => by cases hz) (by show (decide (0 ≤ pc) && decide (pc < 10)) = true; simp [hpc]) (by decide) (hts _ hlk) (va_Nw.use rfl hZ.2.2.2.1) hcell hv hcl9 (kx hr q9 H1 locs1 ls hP2 hD2 hS1 hl)
  · intro v u t H1 locs1 ht hal hr hB hsz hkp hS1
    obtain ⟨hP2, hD2⟩ := jpatch_ok isC hC rfl (va_nd_nodup hnd) hP hD hkp (by rw [← ht]; exact hB)
    rw [hp2] at hP2 hD2
    exact kk v hr H1 locs1 ls hP2 hD2 hS1 hl
theorem jMw_of {l : Launch} {G : jG} {sa : Nat → Nat} {y : MethodName} {Ts Ts' : List Cond} {rm : Room} {av : List Value} {w0 w1 : va_W} {r : Option Value} {cc : ByteArray} {maxL : Nat} {own : String} {lv0 : List (Nat × Value)} (hy : plainName y.cls = true) (hw : Ts = Cond.codeWith y cc maxL (some .int) [(0, 10, 13, 13)] :: Ts') (hown : y.cls = own) (hadr : w1.map (·.1) = w0.map (·.1)) (hal : (lg_sl av).length ≤ maxL) (hlv : lv_args 0 av = lv0)
    (body : ∀ X : jX, jC X l G maxL rm cc own Ts → jEw X sa r w1 → J X 0 0 w0 lv0 0 []) : jMw l G sa y Ts rm av w0 r w1 := by
  refine ⟨hadr, fun sz => ?_⟩
  refine MetFree.of_bodyS (code := cc) (maxLocals := maxL) (ret := some .int) hy ?_ ?_
  · intro args s m h hn
    obtain ⟨m9, meth, c, hn9, h1, h2, h3, h4, -, h5, h6, -⟩ := Cond.codeWith_spec (atoms_spec (ws := Ts) h _ (by rw [hw]; exact List.mem_cons_self))
    cases hn.symm.trans hn9
    exact ⟨meth, c, h1, h2, h3, h4, h5, h6⟩
  · intro p e s m args below meth c s₁ B hml hv _
    obtain ⟨rfl, hsz, hP, hK, hD0, hFz, hZ⟩ := hv
    have hts := atoms_spec (ws := Ts) B.pre
    have hte : c.exceptionTable.toList = tableOf [(0, 10, 13, 13)] := vx_table (x := y) B (hts _ (by rw [hw]; exact List.mem_cons_self))
    have hown' : s.vm.findClass own = some m.cls := by rw [← hown]; exact findClass_of_methodNamed B.named
    subst hsz
    have hl := lv_entry av (n := maxL) hal
    rw [hlv] at hl
    have hh0 : s₁.heap = s.heap := by rw [B.state]; rfl
    have hJ := body ((p, l, e, (headSpec Ts rm).room, s, m, av.toArray, below, meth, c), G, va_A w0 s.heap.size, maxL, MQ below (jQ G r w1 (va_A w0 s.heap.size)) av.toArray s 1 6 (va_A w0 s.heap.size))
      ⟨rfl, rfl, rfl, rfl, B.exec, B.bytes, hml, hown', hts, hK, B.notSynchronized, fun q h => Or.inr h, hFz⟩ ⟨rfl, B.returns, hte, hZ⟩ s.heap [] _ hP hD0.self va_S.rf hl
    rw [← lg_entry_eq] at hJ
    obtain ⟨t, a1, o, b1, b2, b3⟩ := hJ s₁ hh0 (Stand.of_body B)
    exact ⟨t, o, a1, b1, b2, ⟨b3.1, b3.2⟩⟩
/-- what the wrapper writes -/
def jlo (f : Nat → Int64) (r : Option Int32) : Nat → Int64 := match r with
  | none => f
  | some v => vp_updL f 0 v.toInt64
abbrev rm_L_person : Room := { frames := 7, cells := 1, slots := 6, locals := 113 }
theorem jy_X11_person : jYx yX11_person wsX11_person rm_X11_person cX11_person 4 (some .int) 2 := ⟨⟨_, rfl⟩, ⟨rfl, rfl⟩, by decide, by decide, by decide +kernel⟩
set_option maxHeartbeats 8000000 in
set_option maxRecDepth 100000 in
theorem ct_L_person (l : Launch) (hl : l.stackTraces = false) (G : jG) (sa : Nat → Nat) (a_t : Nat) (a_t_now : Nat) (a_t_now_town : Nat) (a_t_now_town_born : Nat) (a_t_now_town_dies : Nat) (a_t_now_town_limit : Nat) (a_t_tape : Nat) (a_t_reader : Nat) (a_t_flow : Nat) (a_t_ring : Nat) (a_t_choice : Nat) (a_t_search : Nat) (a_t_meetings : Nat) (a_t_firstImage : Nat) (a_t_secondImage : Nat) (a_t_spare : Nat) (t_whyWrong : Int32) (t_changes : Int32) (t_refusals : Int32) (a_t_now_book : Nat) (t_now_kept : Int32) (t_now_town_persons : Int32) (t_now_town_deals : Int32) (t_now_town_lawYears : Int32) (t_now_town_toldParts : Int32) (a_t_now_town_personNames : Nat) (a_t_now_town_dealNames : Nat) (a_t_now_town_lender : Nat) (a_t_now_town_borrower : Nat) (a_t_now_town_year : Nat) (a_t_now_town_lenderGain : Nat) (a_t_now_town_borrowerGain : Nat) (a_t_now_town_either : Nat) (a_t_now_town_byYear : Nat) (a_t_now_town_memo : Nat) (t_now_town_born : Nat → Int32) (t_now_town_dies : Nat → Int32) (t_now_town_limit : Nat → Int32) (a_o : Nat) (f : Nat → Int64) (p1 : Int32) (p2 : Int32) (r : Option Int32) (hd : dn_X11_person t_now_town_persons t_now_town_toldParts t_now_town_born t_now_town_dies t_now_town_limit p1 p2 = some r) : jMw l G sa yL_person wsL_person rm_L_person [.ref a_t, .int p1, .int p2, .ref a_o] ((a_o, .inl (G.2.2.2.1, 1, .inr (.inl f))) :: (wd_X11_person G a_t a_t_now a_t_now_town a_t_now_town_born a_t_now_town_dies a_t_now_town_limit a_t_tape a_t_reader a_t_flow a_t_ring a_t_choice a_t_search a_t_meetings a_t_firstImage a_t_secondImage a_t_spare t_whyWrong t_changes t_refusals a_t_now_town a_t_now_book t_now_kept t_now_town_persons t_now_town_deals t_now_town_lawYears t_now_town_toldParts a_t_now_town_personNames a_t_now_town_dealNames a_t_now_town_lender a_t_now_town_borrower a_t_now_town_year a_t_now_town_lenderGain a_t_now_town_borrowerGain a_t_now_town_either a_t_now_town_byYear a_t_now_town_memo t_now_town_born t_now_town_dies t_now_town_limit)) (some (.int (b2i r.isNone))) ((a_o, .inl (G.2.2.2.1, 1, .inr (.inl (jlo f r)))) :: (wd_X11_person G a_t a_t_now a_t_now_town a_t_now_town_born a_t_now_town_dies a_t_now_town_limit a_t_tape a_t_reader a_t_flow a_t_ring a_t_choice a_t_search a_t_meetings a_t_firstImage a_t_secondImage a_t_spare t_whyWrong t_changes t_refusals a_t_now_town a_t_now_book t_now_kept t_now_town_persons t_now_town_deals t_now_town_lawYears t_now_town_toldParts a_t_now_town_personNames a_t_now_town_dealNames a_t_now_town_lender a_t_now_town_borrower a_t_now_town_year a_t_now_town_lenderGain a_t_now_town_borrowerGain a_t_now_town_either a_t_now_town_byYear a_t_now_town_memo t_now_town_born t_now_town_dies t_now_town_limit)) := by
  refine jMw_of (own := RL) (by decide) rfl rfl rfl (Nat.le_of_ble_eq_true rfl) (lv0 := [(0, .ref a_t), (1, .int p1), (2, .int p2), (3, .ref a_o)]) rfl (fun X C hE => ?_)
  have hlkm : Cond.classLink RL 13 jExN ∈ wsL_person := List.mem_of_getElem? (i := 1) rfl
  refine j_aload_n (pc := 0) C dL_person_0 rfl 3 rfl ?_
  refine j_iconst (pc := 1) (v := 0) C dL_person_1 jk_I0 ?_
  refine j_aload_n (pc := 2) C dL_person_2 rfl 0 rfl ?_
  refine j_iload_n (pc := 3) C dL_person_3 rfl 1 rfl ?_
  refine j_iload_n (pc := 4) C dL_person_4 rfl 2 rfl ?_
  refine j_callX (pc := 5) (q0 := 1) (ci := 11) (As := [.int p1, .int p2]) (rest := [.int 0, .ref a_o]) C hE (ct_X11_person l hl G sa a_t a_t_now a_t_now_town a_t_now_town_born a_t_now_town_dies a_t_now_town_limit a_t_tape a_t_reader a_t_flow a_t_ring a_t_choice a_t_search a_t_meetings a_t_firstImage a_t_secondImage a_t_spare t_whyWrong t_changes t_refusals a_t_now_book t_now_kept t_now_town_persons t_now_town_deals t_now_town_lawYears t_now_town_toldParts a_t_now_town_personNames a_t_now_town_dealNames a_t_now_town_lender a_t_now_town_borrower a_t_now_town_year a_t_now_town_lenderGain a_t_now_town_borrowerGain a_t_now_town_either a_t_now_town_byYear a_t_now_town_memo t_now_town_born t_now_town_dies t_now_town_limit p1 p2 r hd) jy_X11_person dL_person_5 gL_person_X11_person rfl rfl (by decide) (by decide) [1, 2, 3, 4, 5, 6] rfl rfl (jpt_eq rfl rfl rfl) rfl rfl rfl (Nat.le_of_ble_eq_true rfl) hlkm (by decide) (fun hr q => ?_) (fun v hr => ?_)
  · subst hr
    refine j_astore (pc := 13) (lv2 := [(4, .ref q)]) C dL_person_13 (by decide) [0] rfl ?_
    refine j_iconst (pc := 15) (v := 1) C dL_person_15 jk_I1 ?_
    exact j_wret (pc := 16) C hE dL_person_16 rfl rfl
  · subst hr
    refine j_i2l (pc := 8) C dL_person_8 ?_
    refine j_last (pc := 9) (q0 := 0) (ws2 := ((a_o, .inl (G.2.2.2.1, 1, .inr (.inl (vp_updL f 0 v.toInt64)))) :: (wd_X11_person G a_t a_t_now a_t_now_town a_t_now_town_born a_t_now_town_dies a_t_now_town_limit a_t_tape a_t_reader a_t_flow a_t_ring a_t_choice a_t_search a_t_meetings a_t_firstImage a_t_secondImage a_t_spare t_whyWrong t_changes t_refusals a_t_now_town a_t_now_book t_now_kept t_now_town_persons t_now_town_deals t_now_town_lawYears t_now_town_toldParts a_t_now_town_personNames a_t_now_town_dealNames a_t_now_town_lender a_t_now_town_borrower a_t_now_town_year a_t_now_town_lenderGain a_t_now_town_borrowerGain a_t_now_town_either a_t_now_town_byYear a_t_now_town_memo t_now_town_born t_now_town_dies t_now_town_limit))) C dL_person_9 rfl (by decide) rfl ?_
    refine j_goto (pc := 10) (tgt := 17) C dL_person_10 (by decide) ?_
    refine j_iconst (pc := 17) (v := 0) C dL_person_17 jk_I0 ?_
    exact j_wret (pc := 18) C hE dL_person_18 rfl rfl
abbrev rm_L_deal : Room := { frames := 7, cells := 1, slots := 6, locals := 113 }
theorem jy_X11_deal : jYx yX11_deal wsX11_deal rm_X11_deal cX11_deal 4 (some .int) 2 := ⟨⟨_, rfl⟩, ⟨rfl, rfl⟩, by decide, by decide, by decide +kernel⟩
set_option maxHeartbeats 8000000 in
set_option maxRecDepth 100000 in
theorem ct_L_deal (l : Launch) (hl : l.stackTraces = false) (G : jG) (sa : Nat → Nat) (a_t : Nat) (a_t_now : Nat) (a_t_now_book : Nat) (a_t_now_book_deal : Nat) (a_t_now_book_way : Nat) (a_t_now_town : Nat) (a_t_now_town_borrower : Nat) (a_t_now_town_borrowerGain : Nat) (a_t_now_town_either : Nat) (a_t_now_town_lender : Nat) (a_t_now_town_lenderGain : Nat) (a_t_now_town_year : Nat) (a_t_tape : Nat) (a_t_reader : Nat) (a_t_flow : Nat) (a_t_ring : Nat) (a_t_choice : Nat) (a_t_search : Nat) (a_t_meetings : Nat) (a_t_firstImage : Nat) (a_t_secondImage : Nat) (a_t_spare : Nat) (t_whyWrong : Int32) (t_changes : Int32) (t_refusals : Int32) (t_now_kept : Int32) (a_t_now_book_foundNothing : Nat) (t_now_book_size : Int32) (t_now_book_deal : Nat → Int32) (t_now_book_way : Nat → Int32) (t_now_town_persons : Int32) (t_now_town_deals : Int32) (t_now_town_lawYears : Int32) (t_now_town_toldParts : Int32) (a_t_now_town_personNames : Nat) (a_t_now_town_born : Nat) (a_t_now_town_dies : Nat) (a_t_now_town_limit : Nat) (a_t_now_town_dealNames : Nat) (a_t_now_town_byYear : Nat) (a_t_now_town_memo : Nat) (t_now_town_borrower : Nat → Int32) (t_now_town_borrowerGain : Nat → Int32) (t_now_town_either : Nat → Int32) (t_now_town_lender : Nat → Int32) (t_now_town_lenderGain : Nat → Int32) (t_now_town_year : Nat → Int32) (a_o : Nat) (f : Nat → Int64) (p1 : Int32) (p2 : Int32) (r : Option Int32) (hd : dn_X11_deal t_now_book_size t_now_book_deal t_now_book_way t_now_town_deals t_now_town_borrower t_now_town_borrowerGain t_now_town_either t_now_town_lender t_now_town_lenderGain t_now_town_year p1 p2 = some r) : jMw l G sa yL_deal wsL_deal rm_L_deal [.ref a_t, .int p1, .int p2, .ref a_o] ((a_o, .inl (G.2.2.2.1, 1, .inr (.inl f))) :: (wd_X11_deal G a_t a_t_now a_t_now_book a_t_now_book_deal a_t_now_book_way a_t_now_town a_t_now_town_borrower a_t_now_town_borrowerGain a_t_now_town_either a_t_now_town_lender a_t_now_town_lenderGain a_t_now_town_year a_t_tape a_t_reader a_t_flow a_t_ring a_t_choice a_t_search a_t_meetings a_t_firstImage a_t_secondImage a_t_spare t_whyWrong t_changes t_refusals a_t_now_town t_now_kept a_t_now_book_foundNothing t_now_book_size t_now_book_deal t_now_book_way t_now_town_persons t_now_town_deals t_now_town_lawYears t_now_town_toldParts a_t_now_town_personNames a_t_now_town_born a_t_now_town_dies a_t_now_town_limit a_t_now_town_dealNames a_t_now_town_byYear a_t_now_town_memo t_now_town_borrower t_now_town_borrowerGain t_now_town_either t_now_town_lender t_now_town_lenderGain t_now_town_year)) (some (.int (b2i r.isNone))) ((a_o, .inl (G.2.2.2.1, 1, .inr (.inl (jlo f r)))) :: (wd_X11_deal G a_t a_t_now a_t_now_book a_t_now_book_deal a_t_now_book_way a_t_now_town a_t_now_town_borrower a_t_now_town_borrowerGain a_t_now_town_either a_t_now_town_lender a_t_now_town_lenderGain a_t_now_town_year a_t_tape a_t_reader a_t_flow a_t_ring a_t_choice a_t_search a_t_meetings a_t_firstImage a_t_secondImage a_t_spare t_whyWrong t_changes t_refusals a_t_now_town t_now_kept a_t_now_book_foundNothing t_now_book_size t_now_book_deal t_now_book_way t_now_town_persons t_now_town_deals t_now_town_lawYears t_now_town_toldParts a_t_now_town_personNames a_t_now_town_born a_t_now_town_dies a_t_now_town_limit a_t_now_town_dealNames a_t_now_town_byYear a_t_now_town_memo t_now_town_borrower t_now_town_borrowerGain t_now_town_either t_now_town_lender t_now_town_lenderGain t_now_town_year)) := by
  refine jMw_of (own := RL) (by decide) rfl rfl rfl (Nat.le_of_ble_eq_true rfl) (lv0 := [(0, .ref a_t), (1, .int p1), (2, .int p2), (3, .ref a_o)]) rfl (fun X C hE => ?_)
  have hlkm : Cond.classLink RL 13 jExN ∈ wsL_deal := List.mem_of_getElem? (i := 1) rfl
  refine j_aload_n (pc := 0) C dL_deal_0 rfl 3 rfl ?_
  refine j_iconst (pc := 1) (v := 0) C dL_deal_1 jk_I0 ?_
  refine j_aload_n (pc := 2) C dL_deal_2 rfl 0 rfl ?_
  refine j_iload_n (pc := 3) C dL_deal_3 rfl 1 rfl ?_
  refine j_iload_n (pc := 4) C dL_deal_4 rfl 2 rfl ?_
  refine j_callX (pc := 5) (q0 := 1) (ci := 11) (As := [.int p1, .int p2]) (rest := [.int 0, .ref a_o]) C hE (ct_X11_deal l hl G sa a_t a_t_now a_t_now_book a_t_now_book_deal a_t_now_book_way a_t_now_town a_t_now_town_borrower a_t_now_town_borrowerGain a_t_now_town_either a_t_now_town_lender a_t_now_town_lenderGain a_t_now_town_year a_t_tape a_t_reader a_t_flow a_t_ring a_t_choice a_t_search a_t_meetings a_t_firstImage a_t_secondImage a_t_spare t_whyWrong t_changes t_refusals t_now_kept a_t_now_book_foundNothing t_now_book_size t_now_book_deal t_now_book_way t_now_town_persons t_now_town_deals t_now_town_lawYears t_now_town_toldParts a_t_now_town_personNames a_t_now_town_born a_t_now_town_dies a_t_now_town_limit a_t_now_town_dealNames a_t_now_town_byYear a_t_now_town_memo t_now_town_borrower t_now_town_borrowerGain t_now_town_either t_now_town_lender t_now_town_lenderGain t_now_town_year p1 p2 r hd) jy_X11_deal dL_deal_5 gL_deal_X11_deal rfl rfl (by decide) (by decide) [1, 2, 3, 4, 5, 6, 7, 8, 9, 10, 11, 12] rfl rfl (jpt_eq rfl rfl rfl) rfl rfl rfl (Nat.le_of_ble_eq_true rfl) hlkm (by decide) (fun hr q => ?_) (fun v hr => ?_)
  · subst hr
    refine j_astore (pc := 13) (lv2 := [(4, .ref q)]) C dL_deal_13 (by decide) [0] rfl ?_
    refine j_iconst (pc := 15) (v := 1) C dL_deal_15 jk_I1 ?_
    exact j_wret (pc := 16) C hE dL_deal_16 rfl rfl
  · subst hr
    refine j_i2l (pc := 8) C dL_deal_8 ?_
    refine j_last (pc := 9) (q0 := 0) (ws2 := ((a_o, .inl (G.2.2.2.1, 1, .inr (.inl (vp_updL f 0 v.toInt64)))) :: (wd_X11_deal G a_t a_t_now a_t_now_book a_t_now_book_deal a_t_now_book_way a_t_now_town a_t_now_town_borrower a_t_now_town_borrowerGain a_t_now_town_either a_t_now_town_lender a_t_now_town_lenderGain a_t_now_town_year a_t_tape a_t_reader a_t_flow a_t_ring a_t_choice a_t_search a_t_meetings a_t_firstImage a_t_secondImage a_t_spare t_whyWrong t_changes t_refusals a_t_now_town t_now_kept a_t_now_book_foundNothing t_now_book_size t_now_book_deal t_now_book_way t_now_town_persons t_now_town_deals t_now_town_lawYears t_now_town_toldParts a_t_now_town_personNames a_t_now_town_born a_t_now_town_dies a_t_now_town_limit a_t_now_town_dealNames a_t_now_town_byYear a_t_now_town_memo t_now_town_borrower t_now_town_borrowerGain t_now_town_either t_now_town_lender t_now_town_lenderGain t_now_town_year))) C dL_deal_9 rfl (by decide) rfl ?_
    refine j_goto (pc := 10) (tgt := 17) C dL_deal_10 (by decide) ?_
    refine j_iconst (pc := 17) (v := 0) C dL_deal_17 jk_I0 ?_
    exact j_wret (pc := 18) C hE dL_deal_18 rfl rfl
