/-! ===== the start: what the Statement gives, the first contents, the claim ===== -/
abbrev tmS (i : Nat) : Term := .string RX9 (([57, 63, 65, 67, 69, 71, 73, 75, 77, 79, 81] : List Nat).getD i 0)
theorem st_w0 : Cond.classLink RL 8 RX11 ∈ lw_tbl := by decide +kernel
theorem st_w1 : Cond.instantiable RX11 14 ∈ lw_tbl := by decide +kernel
theorem st_w2 : Cond.initialized RX11 ∈ lw_tbl := by decide +kernel
theorem st_w3 : Cond.methodLink RL 18 yX11_init ∈ lw_tbl := by decide +kernel
theorem st_w4 : Cond.instanceMethod yX11_init ∈ lw_tbl := by decide +kernel
theorem st_w5 : Cond.classLink RL 19 RX12 ∈ lw_tbl := by decide +kernel
theorem st_w6 : Cond.instantiable RX12 58 ∈ lw_tbl := by decide +kernel
theorem st_w7 : Cond.initialized RX12 ∈ lw_tbl := by decide +kernel
theorem st_w8 : Cond.methodLink RL 21 yX12_init ∈ lw_tbl := by decide +kernel
theorem st_w9 : Cond.instanceMethod yX12_init ∈ lw_tbl := by decide +kernel
theorem st_w10 : Cond.arrayClass .long ∈ lw_tbl := by decide +kernel
theorem st_w11 : Cond.arrayClass .byte ∈ lw_tbl := by decide +kernel
theorem st_w12 : Cond.arrayClass .int ∈ lw_tbl := by decide +kernel
theorem st_w13 : Cond.arrayClass .boolean ∈ lw_tbl := by decide +kernel
theorem st_w14 : Cond.laysStatic "java/lang/String" "COMPACT_STRINGS" "Z" ∈ lw_tbl := by decide +kernel
theorem st_w15 : Cond.initialized "java/lang/String" ∈ lw_tbl := by decide +kernel
theorem st_w16 : Cond.laysStatic "jdk/internal/util/Preconditions" "SIOOBE_FORMATTER" "Ljava/util/function/BiFunction;" ∈ lw_tbl := by decide +kernel
theorem st_w17 : Cond.initialized "jdk/internal/util/Preconditions" ∈ lw_tbl := by decide +kernel
theorem st_w18 : Cond.laysStatic Bundle.tN "UNASSIGNED_STACK" Bundle.steD ∈ lw_tbl := by decide +kernel
theorem st_w19 : Cond.initialized Bundle.tN ∈ lw_tbl := by decide +kernel
theorem st_w20 : Cond.laysStatic Bundle.tN "SUPPRESSED_SENTINEL" Bundle.listD ∈ lw_tbl := by decide +kernel
theorem st_w21 : Cond.castable jExN jExN ∈ lw_tbl := by decide +kernel
theorem st_w22 : Cond.stringRef RX11 134 "no such person, or nothing such of one" ∈ lw_tbl := by decide +kernel
theorem st_w23 : Cond.stringRef RX11 155 "no such deal, or nothing such of one" ∈ lw_tbl := by decide +kernel
theorem st_i0 : Cond.instantiable RX0 4 ∈ lw_tbl := by decide +kernel
theorem st_i1 : Cond.instantiable RX1 6 ∈ lw_tbl := by decide +kernel
theorem st_i2 : Cond.instantiable RX2 9 ∈ lw_tbl := by decide +kernel
theorem st_i3 : Cond.instantiable RX3 5 ∈ lw_tbl := by decide +kernel
theorem st_i4 : Cond.instantiable RX4 7 ∈ lw_tbl := by decide +kernel
theorem st_i5 : Cond.instantiable RX5 5 ∈ lw_tbl := by decide +kernel
theorem st_i6 : Cond.instantiable RX6 9 ∈ lw_tbl := by decide +kernel
theorem st_i7 : Cond.instantiable RX7 4 ∈ lw_tbl := by decide +kernel
theorem st_i8 : Cond.instantiable RX8 3 ∈ lw_tbl := by decide +kernel
theorem st_i9 : Cond.instantiable RX9 8 ∈ lw_tbl := by decide +kernel
theorem st_i10 : Cond.instantiable RX10 17 ∈ lw_tbl := by decide +kernel
theorem st_i11 : Cond.instantiable RX11 14 ∈ lw_tbl := by decide +kernel
theorem st_i12 : Cond.instantiable RX12 58 ∈ lw_tbl := by decide +kernel
set_option maxRecDepth 100000 in
theorem st_rf : ∀ q ∈ jRefs, Cond.stringRef q.1 q.2.1 q.2.2.1 ∈ lw_tbl := by decide +kernel
theorem st_nm : ∀ q ∈ jNests, Cond.methodLinkNest q.1 q.2.1 q.2.2 RX11 ∈ lw_tbl := by decide +kernel
theorem st_de : ∀ x ∈ jExD, Cond.declares x ∈ lw_tbl := by decide +kernel
theorem st_rq : ∀ q ∈ jRefs, q.2.2.2 < 11 ∧ ((q.1 = RX9 ∧ q.2.1 = ([57, 63, 65, 67, 69, 71, 73, 75, 77, 79, 81] : List Nat).getD q.2.2.2 0) ∨ Cond.eq (.string q.1 q.2.1) (tmS q.2.2.2) ∈ flatC (Jvm.Cond.and given_1 narrow_1) ∨ Cond.eq (tmS q.2.2.2) (.string q.1 q.2.1) ∈ flatC (Jvm.Cond.and given_1 narrow_1)) := by decide +kernel
theorem st_ex : ∀ i, i < 11 → Cond.exactly (tmS i) "java/lang/String" ∈ flatC (Jvm.Cond.and given_1 narrow_1) := by decide +kernel
theorem st_co : ∀ i, i < 11 → Cond.eq (.field (tmS i) "java/lang/String" "coder" "B") (.int 0) ∈ flatC (Jvm.Cond.and given_1 narrow_1) := by decide +kernel
theorem st_ar : ∀ i, i < 11 → Cond.arrayOf (.field (tmS i) "java/lang/String" "value" "[B") .byte ∈ flatC (Jvm.Cond.and given_1 narrow_1) := by decide +kernel
theorem st_le : ∀ i, i < 11 → Cond.eq (.length (.field (tmS i) "java/lang/String" "value" "[B")) (.int (Int32.ofNat (lenJS.getD i 0))) ∈ flatC (Jvm.Cond.and given_1 narrow_1) := by decide +kernel
theorem st_el : ∀ i, i < 11 → ∀ j, j < lenJS.getD i 0 → Cond.eq (.elem (.field (tmS i) "java/lang/String" "value" "[B") (.int (Int32.ofNat j))) (.int ((bytJS.getD i []).getD j 0)) ∈ flatC (Jvm.Cond.and given_1 narrow_1) := by decide +kernel
theorem st_n1 : ∀ j, j < 1 → Cond.not (Cond.eq (tmS j) (tmS 1)) ∈ flatC (Jvm.Cond.and given_1 narrow_1) := by decide +kernel
theorem st_n2 : ∀ j, j < 2 → Cond.not (Cond.eq (tmS j) (tmS 2)) ∈ flatC (Jvm.Cond.and given_1 narrow_1) := by decide +kernel
theorem st_n3 : ∀ j, j < 3 → Cond.not (Cond.eq (tmS j) (tmS 3)) ∈ flatC (Jvm.Cond.and given_1 narrow_1) := by decide +kernel
theorem st_n4 : ∀ j, j < 4 → Cond.not (Cond.eq (tmS j) (tmS 4)) ∈ flatC (Jvm.Cond.and given_1 narrow_1) := by decide +kernel
theorem st_n5 : ∀ j, j < 5 → Cond.not (Cond.eq (tmS j) (tmS 5)) ∈ flatC (Jvm.Cond.and given_1 narrow_1) := by decide +kernel
theorem st_n6 : ∀ j, j < 6 → Cond.not (Cond.eq (tmS j) (tmS 6)) ∈ flatC (Jvm.Cond.and given_1 narrow_1) := by decide +kernel
theorem st_n7 : ∀ j, j < 7 → Cond.not (Cond.eq (tmS j) (tmS 7)) ∈ flatC (Jvm.Cond.and given_1 narrow_1) := by decide +kernel
theorem st_n8 : ∀ j, j < 8 → Cond.not (Cond.eq (tmS j) (tmS 8)) ∈ flatC (Jvm.Cond.and given_1 narrow_1) := by decide +kernel
theorem st_n9 : ∀ j, j < 9 → Cond.not (Cond.eq (tmS j) (tmS 9)) ∈ flatC (Jvm.Cond.and given_1 narrow_1) := by decide +kernel
theorem st_n10 : ∀ j, j < 10 → Cond.not (Cond.eq (tmS j) (tmS 10)) ∈ flatC (Jvm.Cond.and given_1 narrow_1) := by decide +kernel
theorem st_nl (i : Nat) (hi : i < 11) (j : Nat) (hj : j < i) : Cond.not (Cond.eq (tmS j) (tmS i)) ∈ flatC (Jvm.Cond.and given_1 narrow_1) := by
  match i, hi, hj with
  | 0, _, hj => exact absurd hj (Nat.not_lt_zero _)
  | 1, _, hj => exact st_n1 j hj
  | 2, _, hj => exact st_n2 j hj
  | 3, _, hj => exact st_n3 j hj
  | 4, _, hj => exact st_n4 j hj
  | 5, _, hj => exact st_n5 j hj
  | 6, _, hj => exact st_n6 j hj
  | 7, _, hj => exact st_n7 j hj
  | 8, _, hj => exact st_n8 j hj
  | 9, _, hj => exact st_n9 j hj
  | 10, _, hj => exact st_n10 j hj
  | k + 11, hi, _ => omega
theorem st_ne (i : Nat) (hi : i < 11) (j : Nat) (hj : j < 11) (h : i ≠ j) : Cond.not (Cond.eq (tmS i) (tmS j)) ∈ flatC (Jvm.Cond.and given_1 narrow_1) ∨ Cond.not (Cond.eq (tmS j) (tmS i)) ∈ flatC (Jvm.Cond.and given_1 narrow_1) := by
  rcases Nat.lt_or_gt_of_ne h with z | z
  · exact Or.inl (st_nl j hj i z)
  · exact Or.inr (st_nl i hi j z)
theorem st_x0 : Cond.exactly (.string RX11 134) "java/lang/String" ∈ flatC (Jvm.Cond.and given_1 narrow_1) := by decide +kernel
theorem st_x1 : Cond.exactly (.string RX11 155) "java/lang/String" ∈ flatC (Jvm.Cond.and given_1 narrow_1) := by decide +kernel
theorem st_v0 : Cond.eq (.static "java/lang/String" "COMPACT_STRINGS" "Z") (.int 1) ∈ flatC (Jvm.Cond.and given_1 narrow_1) := by decide +kernel
theorem st_v1 : Cond.isRef (.static "jdk/internal/util/Preconditions" "SIOOBE_FORMATTER" "Ljava/util/function/BiFunction;") ∈ flatC (Jvm.Cond.and given_1 narrow_1) := by decide +kernel
theorem st_v2 : Cond.isRef (.static Bundle.tN "UNASSIGNED_STACK" Bundle.steD) ∈ flatC (Jvm.Cond.and given_1 narrow_1) := by decide +kernel
theorem st_v3 : Cond.isRef (.static Bundle.tN "SUPPRESSED_SENTINEL" Bundle.listD) ∈ flatC (Jvm.Cond.and given_1 narrow_1) := by decide +kernel
theorem st_eqR {args : Array Value} {s : State} {a b : Term} {y : Nat} (h : (Cond.eq a b).before args s = true) (ha : a.eval args s none [] s = some (.ref y)) : b.eval args s none [] s = some (.ref y) := by
  simp only [Cond.before, Cond.holds, Cond.value, ha] at h
  cases hb : b.eval args s none [] s with
  | none => simp [hb] at h
  | some x =>
    rw [hb] at h
    cases x <;> simp_all
theorem st_cls {s : State} {b : Nat} (hts : ∀ w ∈ lw_tbl, w.before #[Value.ref b] s = true) : ∃ (dC : Nat → ClassId) (dI : Nat → Nat → Nat), ∀ (k : Nat) (q : vw_C), vwCl[k]? = some q → u_Kn s q.1 q.2.1 q.2.2 (dC k) (dI k) := by
  obtain ⟨c0, i0, K0⟩ := u_known (C := RX0) (T := TX0) (N := 4) (n := 4) hts inX0 (hts _ st_i0)
  obtain ⟨c1, i1, K1⟩ := u_known (C := RX1) (T := TX1) (N := 6) (n := 6) hts inX1 (hts _ st_i1)
  obtain ⟨c2, i2, K2⟩ := u_known (C := RX2) (T := TX2) (N := 9) (n := 9) hts inX2 (hts _ st_i2)
  obtain ⟨c3, i3, K3⟩ := u_known (C := RX3) (T := TX3) (N := 5) (n := 5) hts inX3 (hts _ st_i3)
  obtain ⟨c4, i4, K4⟩ := u_known (C := RX4) (T := TX4) (N := 7) (n := 7) hts inX4 (hts _ st_i4)
  obtain ⟨c5, i5, K5⟩ := u_known (C := RX5) (T := TX5) (N := 5) (n := 5) hts inX5 (hts _ st_i5)
  obtain ⟨c6, i6, K6⟩ := u_known (C := RX6) (T := TX6) (N := 9) (n := 9) hts inX6 (hts _ st_i6)
  obtain ⟨c7, i7, K7⟩ := u_known (C := RX7) (T := TX7) (N := 4) (n := 4) hts inX7 (hts _ st_i7)
  obtain ⟨c8, i8, K8⟩ := u_known (C := RX8) (T := TX8) (N := 3) (n := 3) hts inX8 (hts _ st_i8)
  obtain ⟨c9, i9, K9⟩ := u_known (C := RX9) (T := TX9) (N := 8) (n := 8) hts inX9 (hts _ st_i9)
  obtain ⟨c10, i10, K10⟩ := u_known (C := RX10) (T := TX10) (N := 17) (n := 17) hts inX10 (hts _ st_i10)
  obtain ⟨c11, i11, K11⟩ := u_known (C := RX11) (T := TX11) (N := 14) (n := 14) hts inX11 (hts _ st_i11)
  obtain ⟨c12, i12, K12⟩ := u_known (C := RX12) (T := TX12) (N := 58) (n := 58) hts inX12 (hts _ st_i12)
  refine ⟨fun k => match k with | 0 => c0 | 1 => c1 | 2 => c2 | 3 => c3 | 4 => c4 | 5 => c5 | 6 => c6 | 7 => c7 | 8 => c8 | 9 => c9 | 10 => c10 | 11 => c11 | _ => c12, fun k => match k with | 0 => i0 | 1 => i1 | 2 => i2 | 3 => i3 | 4 => i4 | 5 => i5 | 6 => i6 | 7 => i7 | 8 => i8 | 9 => i9 | 10 => i10 | 11 => i11 | _ => i12, ?_⟩
  intro k q hq
  match k, hq with
  | 0, hq => exact Option.some.inj hq ▸ K0
  | 1, hq => exact Option.some.inj hq ▸ K1
  | 2, hq => exact Option.some.inj hq ▸ K2
  | 3, hq => exact Option.some.inj hq ▸ K3
  | 4, hq => exact Option.some.inj hq ▸ K4
  | 5, hq => exact Option.some.inj hq ▸ K5
  | 6, hq => exact Option.some.inj hq ▸ K6
  | 7, hq => exact Option.some.inj hq ▸ K7
  | 8, hq => exact Option.some.inj hq ▸ K8
  | 9, hq => exact Option.some.inj hq ▸ K9
  | 10, hq => exact Option.some.inj hq ▸ K10
  | 11, hq => exact Option.some.inj hq ▸ K11
  | 12, hq => exact Option.some.inj hq ▸ K12
  | k + 13, hq => simp [vwCl] at hq
theorem st_world {s : State} {b : Nat} (hts : ∀ w ∈ lw_tbl, w.before #[Value.ref b] s = true) (hgv : (Jvm.Cond.and given_1 narrow_1).before #[Value.ref b] s = true) : ∃ (G : jG) (sa : Nat → Nat), va_K G.1 vwCl (jTys G) s ∧ jF G (fun q : Nat => s.heap.size ≤ q) s s.heap ∧ jZ sa (fun q : Nat => s.heap.size ≤ q) s s.heap := by
  have hn : ∀ a : Nat, a < s.heap.size → ¬ (fun q : Nat => s.heap.size ≤ q) a := fun a h => Nat.not_le.mpr h
  have hv := flat_of_before _ hgv
  obtain ⟨dC, dI, hKc⟩ := st_cls hts
  obtain ⟨cB, kB, pB, b1, b2, b3⟩ := Cond.arrayClass_spec (hts _ st_w11)
  obtain ⟨cI, kI, pI, j1, j2, j3⟩ := Cond.arrayClass_spec (hts _ st_w12)
  obtain ⟨cL, kL, pL, l1, l2, l3⟩ := Cond.arrayClass_spec (hts _ st_w10)
  obtain ⟨cZ, kZ, pZ, z1, z2, z3⟩ := Cond.arrayClass_spec (hts _ st_w13)
  obtain ⟨adK, adV, hS, hev⟩ := vk_Sof (args := #[Value.ref b]) (s := s) (N := nJS) (tm := tmS) (len := lenJS) (byt := bytJS) (A := fun q : Nat => s.heap.size ≤ q) (by decide) (fun i hi => hv _ (st_ex i hi)) (fun i hi => hv _ (st_co i hi)) (fun i hi => hv _ (st_ar i hi)) (fun i hi => hv _ (st_le i hi)) (fun i hi j hj => hv _ (st_el i hi j hj)) (fun i j hi hj hne => (st_ne i hi j hj hne).imp (hv _) (hv _)) hn
  obtain ⟨a0, -, -, -, e0, -⟩ := Cond.exactly_spec (hv _ st_x0)
  obtain ⟨a1, -, -, -, e1, -⟩ := Cond.exactly_spec (hv _ st_x1)
  refine ⟨((dC, dI), cB, cI, cL, cZ, adK, adV), fun i => match i with | 0 => a0 | _ => a1, ⟨hKc, ?_⟩, ⟨hS, va_Zof (hts _ st_w14) (hts _ st_w15) (va_eqi (hv _ st_v0)) hn, va_Zqof (hts _ st_w16) (hts _ st_w17) (hv _ st_v1) hn, ?_, fun q hq => va_Nw.of rfl (hts _ (st_nm q hq))⟩, ⟨vx_Zqof (hts _ st_w18) (hts _ st_w19) (hv _ st_v2) hn, vx_Zqof (hts _ st_w20) (hts _ st_w19) (hv _ st_v3) hn, ?_, va_Nw.of rfl (hts _ st_w21), fun x hx => va_Nw.of rfl (hts _ (st_de x hx))⟩⟩
  · intro k q hq
    match k, hq with
    | 0, hq => cases hq; exact ⟨fun n z => ⟨fun k h => (by cases h), kB, b2, pB, b3⟩, b1⟩
    | 1, hq => cases hq; exact ⟨fun n z => ⟨fun k h => (by cases h), kI, j2, pI, j3⟩, j1⟩
    | 2, hq => cases hq; exact ⟨fun n z => ⟨fun k h => (by cases h), kL, l2, pL, l3⟩, l1⟩
    | 3, hq => cases hq; exact ⟨fun n z => ⟨fun k h => (by cases h), kZ, z2, pZ, z3⟩, z1⟩
    | k + 4, hq => simp [jTys] at hq
  · intro q hq
    obtain ⟨h1, h2⟩ := st_rq q hq
    have h3 := hev _ h1
    refine vk_R.of (A := #[Value.ref b]) (hts _ (st_rf q hq)) ?_
    rcases h2 with ⟨x1, x2⟩ | h2 | h2
    · rw [x1, x2]
      exact h3
    · exact Cond.eq_refs (hv _ h2) h3 rfl
    · exact st_eqR (hv _ h2) h3
  · intro q hq
    unfold jXts at hq
    rcases List.mem_cons.mp hq with rfl | hq
    · exact vk_R.of (A := #[Value.ref b]) (hts _ st_w22) e0
    · rcases List.mem_cons.mp hq with rfl | hq
      · exact vk_R.of (A := #[Value.ref b]) (hts _ st_w23) e1
      · cases hq
