/-! ===== J: the judgement of a method's walk, its standing bundled; rows that turn J at an instruction into J at the next ===== -/
/-- the classes, the classes of the arrays, the addresses of the String constants and of their bytes -/
abbrev jG : Type := va_G × ClassId × ClassId × ClassId × ClassId × (Nat → Nat) × (Nat → Nat)
def jRefs : List (String × Nat × String × Nat) := [(RX9, 57, "person", 0), (RX9, 63, "limit", 1), (RX9, 65, "deal", 2), (RX9, 67, "either", 3), (RX9, 69, "law", 4), (RX9, 71, "life", 5), (RX9, 73, "years", 6), (RX9, 75, "part", 7), (RX9, 77, "lends", 8), (RX9, 79, "borrows", 9), (RX9, 81, "turned", 10), (RX6, 83, "person", 0), (RX6, 92, "limit", 1), (RX6, 97, "deal", 2), (RX6, 187, "either", 3), (RX6, 109, "law", 4), (RX6, 196, "life", 5), (RX6, 191, "years", 6), (RX6, 114, "part", 7), (RX6, 198, "lends", 8), (RX6, 203, "borrows", 9), (RX6, 212, "turned", 10)]
def jTys (G : jG) : List (ClassId × FieldType) := [(G.2.1, .byte), (G.2.2.1, .int), (G.2.2.2.1, .long), (G.2.2.2.2.1, .boolean)]
/-- private constructors, called by nest mates -/
def jNests : List (String × Nat × MethodName) := [(RX11, 11, yX9_init), (RX11, 27, yX2_init), (RX11, 34, yX7_init), (RX11, 41, yX1_init), (RX11, 48, yX3_init), (RX11, 55, yX4_init), (RX11, 62, yX8_init), (RX11, 75, yX10_init), (RX3, 21, yX0_init), (RX8, 18, yX0_init), (RX8, 9, yX10_init)]
/-- what a walk finds and never writes: the String constants; and the links to private constructors -/
def jF (G : jG) (A : Nat → Prop) (U : State) (H : Heap) : Prop :=
  vk_S nJS lenJS bytJS G.2.2.2.2.2.1 G.2.2.2.2.2.2 A U H ∧ va_Z "java/lang/String" "COMPACT_STRINGS" "Z" (.int 1) A U H ∧ va_Zq "jdk/internal/util/Preconditions" "SIOOBE_FORMATTER" "Ljava/util/function/BiFunction;" A U H ∧ (∀ q ∈ jRefs, vk_R q.1 q.2.1 q.2.2.1 (G.2.2.2.2.2.1 q.2.2.2) U) ∧ ∀ q ∈ jNests, va_Nw (.methodLinkNest q.1 q.2.1 q.2.2 RX11) U
theorem jF.same {G : jG} {A : Nat → Prop} {u U : State} {H : Heap} (hv : U.vm = u.vm) (h : jF G A u H) : jF G A U H := by
  have hal : u.vm.Alike U.vm := by rw [hv]; exact Vm.Alike.refl u.vm
  exact ⟨h.1.moved hal, h.2.1.moved hal, h.2.2.1.moved hal, fun q hq => (h.2.2.2.1 q hq).same hv, fun q hq => va_tabs rfl hv.symm (h.2.2.2.2 q hq)⟩
theorem jF.at {G : jG} {A B : Nat → Prop} {s U : State} {H : Heap} {locs : List Loc} (h : jF G A s s.heap) (hS : va_S A s.heap H locs) (hB : ∀ q, B q → A q) (hW : s.WarmedH U.vm) : jF G B U H := by
  exact ⟨((h.1.kept hS.2.1).narrow hB).moved hW.alike, ((h.2.1.kept hS.2.1).narrow hB).moved hW.alike, ((h.2.2.1.kept hS.2.1).narrow hB).moved hW.alike, fun q hq => (h.2.2.2.1 q hq).warm hW, fun q hq => va_Nw.warmM hW (h.2.2.2.2 q hq)⟩
abbrev jX : Type := (Program × Launch × Env × Room × State × MethodId × Array Value × List Frame × Method × Code) × jG × (Nat → Prop) × Nat × (State → Prop)
def J (X : jX) (k n : Nat) (ws : va_W) (lv : List (Nat × Value)) (pc : Nat) (st : List Value) : Prop :=
  match X with
  | ((p, l, e, R, s, m, args, below, meth, c), G, A, nL, Q) => ∀ (H : Heap) (locs : List Loc) (ls : Array Slot), va_P G.1 vwCl ws H → va_D A ws → va_S A s.heap H locs → lv_has ls nL lv → W p l e R s m args below meth c H locs k n Q (F0 m pc ls st)
/-- the standing: launch, classes, number of locals, room, code, own class, words -/
def jC (X : jX) (l' : Launch) (G' : jG) (nL' : Nat) (R' : Room) (cc : ByteArray) (own : String) (Ts : List Cond) : Prop :=
  match X with
  | ((p, l, e, R, s, m, args, below, meth, c), G, A, nL, Q) => l' = l ∧ G' = G ∧ nL' = nL ∧ R' = R ∧ p.tables.exec = Jvm.exec ∧ c.code = cc ∧ c.maxLocals = nL ∧ s.vm.findClass own = some m.cls ∧ (∀ w ∈ Ts, w.before args s = true) ∧ va_K G.1 vwCl (jTys G) s ∧ meth.locks = false ∧ (∀ q, s.heap.size ≤ q → A q) ∧ jF G A s s.heap
def jset (lv : List (Nat × Value)) (i : Nat) (v : Value) : List (Nat × Value) := (i, v) :: lv.filter (fun q => !(q.1 == i) && !(q.1 + 1 == i && q.2.category == 2))
def jset2 (lv : List (Nat × Value)) (i : Nat) (v : Value) : List (Nat × Value) := (i, v) :: lv.filter (fun q => !(q.1 == i) && (!(q.1 == i + 1) && !(q.1 + 1 == i && q.2.category == 2)))
/-! the pure side: partial functions by a step -/
/-! reading a step along a walk -/
theorem lp_pos {σ R : Type} {f : σ → Option (σ ⊕ R)} {n : Nat} {c : Prop} [h : Decidable c] {a b : Option (σ ⊕ R)} {r : R} (hc : c) (hd : lpR f n (if c then a else b) = some r) : lpR f n a = some r := by rwa [if_pos hc] at hd
theorem lp_neg {σ R : Type} {f : σ → Option (σ ⊕ R)} {n : Nat} {c : Prop} [h : Decidable c] {a b : Option (σ ⊕ R)} {r : R} (hc : ¬ c) (hd : lpR f n (if c then a else b) = some r) : lpR f n b = some r := by rwa [if_neg hc] at hd
theorem lp_chk {σ R : Type} {f : σ → Option (σ ⊕ R)} {n : Nat} {c : Prop} [h : Decidable c] {a : Option (σ ⊕ R)} {r : R} (hd : lpR f n (if c then a else none) = some r) : c ∧ lpR f n a = some r := by
  by_cases hc : c
  · rw [if_pos hc] at hd; exact ⟨hc, hd⟩
  · rw [if_neg hc] at hd; cases hd
theorem lp_bind {σ R α : Type} {f : σ → Option (σ ⊕ R)} {n : Nat} {o : Option α} {g : α → Option (σ ⊕ R)} {r : R} (hd : lpR f n (o.bind g) = some r) : ∃ q, o = some q ∧ lpR f n (g q) = some r := by
  cases o with
  | none => cases hd
  | some q => exact ⟨q, rfl, hd⟩
theorem ob_pos {R : Type} {c : Prop} [h : Decidable c] {a b : Option R} {r : R} (hc : c) (hd : (if c then a else b) = some r) : a = some r := by rwa [if_pos hc] at hd
theorem ob_neg {R : Type} {c : Prop} [h : Decidable c] {a b : Option R} {r : R} (hc : ¬ c) (hd : (if c then a else b) = some r) : b = some r := by rwa [if_neg hc] at hd
theorem ob_chk {R : Type} {c : Prop} [h : Decidable c] {a : Option R} {r : R} (hd : (if c then a else none) = some r) : c ∧ a = some r := by
  by_cases hc : c
  · rw [if_pos hc] at hd; exact ⟨hc, hd⟩
  · rw [if_neg hc] at hd; cases hd
theorem ob_bind {R α : Type} {o : Option α} {g : α → Option R} {r : R} (hd : o.bind g = some r) : ∃ q, o = some q ∧ g q = some r := by
  cases o with
  | none => cases hd
  | some q => exact ⟨q, rfl, hd⟩
/-! a world with some of its cells put anew -/
def jpatch (ws : va_W) : List Nat → va_W → va_W
  | i :: is, q :: w => jpatch (ws.set i q) is w
  | _, _ => ws
theorem va_D_addr {A : Nat → Prop} {ws ws' : va_W} (h : ws.map (·.1) = ws'.map (·.1)) (hD : va_D A ws) : va_D A ws' := by
  have at' : ∀ (k : Nat) (q : Nat × va_E), ws'[k]? = some q → ∃ q', ws[k]? = some q' ∧ q'.1 = q.1 := by
    intro k q hq
    have h1 : (ws.map (·.1))[k]? = some q.1 := by rw [h, List.getElem?_map, hq]; rfl
    rw [List.getElem?_map] at h1
    cases hk : ws[k]? with
    | none => rw [hk] at h1; cases h1
    | some q' => rw [hk] at h1; exact ⟨q', rfl, Option.some.inj h1⟩
  refine ⟨fun i j p q hp hq e => ?_, fun k q hq => ?_⟩
  · obtain ⟨p', h1, h2⟩ := at' i p hp
    obtain ⟨q', h3, h4⟩ := at' j q hq
    exact hD.1 i j p' q' h1 h3 (by rw [h2, h4, e])
  · obtain ⟨q', h1, h2⟩ := at' k q hq
    rw [← h2]
    exact hD.2 k q' h1
theorem jpatch_out : ∀ (is : List Nat) (w ws : va_W) (k : Nat), k ∉ is → (jpatch ws is w)[k]? = ws[k]?
  | [], w, ws, k, _ => by simp [jpatch]
  | i :: is, [], ws, k, _ => by simp [jpatch]
  | i :: is, q :: w, ws, k, h => by
    have h1 : k ≠ i := fun e => h (by simp [e])
    have h2 : k ∉ is := fun e => h (by simp [e])
    unfold jpatch
    rw [jpatch_out is w _ k h2, List.getElem?_set_ne (Ne.symm h1)]
theorem jpatch_in : ∀ (is : List Nat) (w ws : va_W) (k : Nat) (q : Nat × va_E), is.Nodup → is.length = w.length → k ∈ is → (jpatch ws is w)[k]? = some q → k < ws.length → ∃ j : Nat, is[j]? = some k ∧ w[j]? = some q
  | [], w, ws, k, q, _, _, h, _, _ => by simp at h
  | i :: is, [], ws, k, q, _, hl, _, _, _ => by simp at hl
  | i :: is, p :: w, ws, k, q, hn, hl, h, hq, hk => by
    have hn2 := List.nodup_cons.mp hn
    unfold jpatch at hq
    by_cases e : k = i
    · subst e
      rw [jpatch_out is w _ k hn2.1, List.getElem?_set_self hk] at hq
      exact ⟨0, rfl, hq⟩
    · have h2 : k ∈ is := by
        rcases List.mem_cons.mp h with h | h
        · exact absurd h e
        · exact h
      obtain ⟨j, h3, h4⟩ := jpatch_in is w (ws.set i p) k q hn2.2 (by simpa using hl) h2 hq (by simpa using hk)
      exact ⟨j + 1, h3, h4⟩
theorem jpatch_addr : ∀ (is : List Nat) (w ws wc : va_W), is.map (fun i => ws[i]?) = wc.map some → w.map (·.1) = wc.map (·.1) → is.Nodup → (jpatch ws is w).map (·.1) = ws.map (·.1)
  | [], w, ws, wc, _, _, _ => by simp [jpatch]
  | i :: is, [], ws, wc, _, _, _ => by simp [jpatch]
  | i :: is, q :: w, ws, [], h, _, _ => by simp at h
  | i :: is, q :: w, ws, c :: wc, h, ha, hn => by
    have hn2 := List.nodup_cons.mp hn
    simp only [List.map_cons, List.cons.injEq] at h ha
    unfold jpatch
    have hset : (ws.set i q).map (·.1) = ws.map (·.1) := by
      apply List.ext_getElem?
      intro k
      rw [List.getElem?_map, List.getElem?_map]
      by_cases e : k = i
      · subst e
        have hk : k < ws.length := by
          rcases Nat.lt_or_ge k ws.length with q | q
          · exact q
          · rw [List.getElem?_eq_none q] at h; cases h.1
        rw [List.getElem?_set_self hk, h.1]
        simp [ha.1]
      · rw [List.getElem?_set_ne (Ne.symm e)]
    rw [jpatch_addr is w (ws.set i q) wc ?_ ha.2 hn2.2, hset]
    rw [← h.2]
    apply List.map_congr_left
    intro j hj
    have : j ≠ i := fun e => hn2.1 (e ▸ hj)
    rw [List.getElem?_set_ne (Ne.symm this)]
theorem jpatch_ok {D : va_G} {A : Nat → Prop} {ws w0 w1 : va_W} {H H1 : Heap} (is : List Nat) (hC : is.map (fun i => ws[i]?) = w0.map some) (hA : w1.map (·.1) = w0.map (·.1)) (hn : is.Nodup) (hP : va_P D vwCl ws H) (hD : va_D A ws) (hk : ∀ q : Nat, q < H.size → ¬ va_A w0 H.size q → H1[q]? = H[q]?) (hP1 : va_P D vwCl w1 H1) : va_P D vwCl (jpatch ws is w1) H1 ∧ va_D A (jpatch ws is w1) := by
  have hadr := jpatch_addr is w1 ws w0 hC hA hn
  have hlen : is.length = w1.length := by
    have h1 : is.length = w0.length := by simpa using congrArg List.length hC
    have h2 : w1.length = w0.length := by simpa using congrArg List.length hA
    rw [h1, h2]
  refine ⟨fun k q hq => ?_, va_D_addr hadr.symm hD⟩
  have hkl : k < ws.length := by
    have h1 : k < (jpatch ws is w1).length := by
      rcases Nat.lt_or_ge k (jpatch ws is w1).length with z | z
      · exact z
      · rw [List.getElem?_eq_none z] at hq; cases hq
    have h2 : (jpatch ws is w1).length = ws.length := by simpa using congrArg List.length hadr
    rw [← h2]; exact h1
  by_cases hin : k ∈ is
  · obtain ⟨j, h1, h2⟩ := jpatch_in is w1 ws k q hn hlen hin hq hkl
    exact hP1 j q h2
  · rw [jpatch_out is w1 ws k hin] at hq
    refine (hP k q hq).kept (hk q.1 (hP k q hq).lt ?_)
    rintro (⟨j, e, hj⟩ | h)
    · have h1 : (is.map (fun i => ws[i]?))[j]? = some (some (q.1, e)) := by rw [hC, List.getElem?_map, hj]; rfl
      rw [List.getElem?_map] at h1
      cases hi : is[j]? with
      | none => rw [hi] at h1; cases h1
      | some i =>
        rw [hi] at h1
        have h2 : ws[i]? = some (q.1, e) := Option.some.inj h1
        have h3 := hD.1 k i q (q.1, e) hq h2 rfl
        exact hin (h3 ▸ List.mem_of_getElem? hi)
    · exact absurd h (Nat.not_le.mpr (hP k q hq).lt)
theorem va_P.sub' {D : va_G} {cl : List vw_C} {ws ws' : va_W} {H : Heap} (h : va_P D cl ws H) (is : List Nat) (hs : is.map (fun i => ws[i]?) = ws'.map some) : va_P D cl ws' H := by
  refine h.sub is ?_
  have h1 : ∀ (l : List Nat) (w : va_W), l.map (fun i => ws[i]?) = w.map some → l.filterMap (fun i => ws[i]?) = w := by
    intro l
    induction l with
    | nil => intro w h; cases w with
      | nil => rfl
      | cons a b => simp at h
    | cons i l ih => intro w h; cases w with
      | nil => simp at h
      | cons a b =>
        simp only [List.map_cons, List.cons.injEq] at h
        rw [List.filterMap_cons_some h.1, ih b h.2]
  exact h1 is ws' hs
/-! contracts: a method with an answer and cells put anew, nothing made -/
def jQ (G : jG) (r : Option Value) (w1 : va_W) (A : Nat → Prop) : Array Value → State → Outcome → State → Prop := fun _ st oc t => oc = .returned r ∧ va_P G.1 vwCl w1 t.heap ∧ va_F A st t
def jPc (G : jG) (av : List Value) (w0 : va_W) (sz : Nat) : Array Value → State → Prop := va_Pc av (fun U => U.heap.size = sz ∧ va_P G.1 vwCl w0 U.heap ∧ va_K G.1 vwCl (jTys G) U ∧ va_D (fun _ => True) w0 ∧ jF G (va_A w0 sz) U U.heap)
def jM (l : Launch) (G : jG) (y : MethodName) (Ts : List Cond) (rm : Room) (av : List Value) (w0 : va_W) (r : Option Value) (w1 : va_W) : Prop :=
  w1.map (·.1) = w0.map (·.1) ∧ ∀ sz : Nat, Met l y Ts rm (jPc G av w0 sz) (jQ G r w1 (va_A w0 sz)) 0 0 (va_A w0 sz)
/-- what a method's end owes -/
def jE (X : jX) (ret : Option FieldType) (r : Option Value) (w1 : va_W) : Prop :=
  match X with
  | ((p, l, e, R, s, m, args, below, meth, c), G, A, nL, Q) => Q = MQ below (jQ G r w1 A) args s 0 0 A ∧ meth.sig.returnType = ret
theorem jPc_blind {G : jG} {av : List Value} {w0 : va_W} {sz : Nat} : FrameBlind (jPc G av w0 sz) := fun a U g mk q => by
  obtain ⟨q0, q1, qP, qK, qD, qF⟩ := q
  exact ⟨q0, q1, qP, va_K.moved (u := U) (U := U.calling g mk a) (Vm.Alike.refl U.vm) qK, qD, jF.same (u := U) (U := U.calling g mk a) rfl qF⟩

theorem j_iconst {X : jX} {l : Launch} {G : jG} {nL : Nat} {Rm : Room} {cc : ByteArray} {own : String} {Ts : List Cond} {k n : Nat} {ws : va_W} {lv : List (Nat × Value)} {pc : Nat} {st : List Value} {z : Int} {v : Int32} (C : jC X l G nL Rm cc own Ts) (hd : decode cc pc = .ok (.iconst z, 1)) (hv : Int32.ofInt z = v) (kk : J X k n ws lv (pc + 1) (.int v :: st)) : J X k n ws lv pc (st) := by
  obtain ⟨⟨p, l', e, R, s, m, args, below, meth, c⟩, G', A, nL', Q⟩ := X
  obtain ⟨rfl, rfl, rfl, rfl, hx, hb, hml, hown, hts, hK, hlk, hAq, hFz⟩ := C
  intro H locs ls hP hD hS hl
  exact lv_iconst hx hb hd hv (kk H locs ls hP hD hS hl)
theorem j_bipush {X : jX} {l : Launch} {G : jG} {nL : Nat} {Rm : Room} {cc : ByteArray} {own : String} {Ts : List Cond} {k n : Nat} {ws : va_W} {lv : List (Nat × Value)} {pc : Nat} {st : List Value} {z : Int} {v : Int32} (C : jC X l G nL Rm cc own Ts) (hd : decode cc pc = .ok (.bipush z, 2)) (hv : (Int8.ofInt z).toInt32 = v) (kk : J X k n ws lv (pc + 2) (.int v :: st)) : J X k n ws lv pc (st) := by
  obtain ⟨⟨p, l', e, R, s, m, args, below, meth, c⟩, G', A, nL', Q⟩ := X
  obtain ⟨rfl, rfl, rfl, rfl, hx, hb, hml, hown, hts, hK, hlk, hAq, hFz⟩ := C
  intro H locs ls hP hD hS hl
  exact lv_bipush hx hb hd hv (kk H locs ls hP hD hS hl)
theorem j_sipush {X : jX} {l : Launch} {G : jG} {nL : Nat} {Rm : Room} {cc : ByteArray} {own : String} {Ts : List Cond} {k n : Nat} {ws : va_W} {lv : List (Nat × Value)} {pc : Nat} {st : List Value} {z : Int} {v : Int32} (C : jC X l G nL Rm cc own Ts) (hd : decode cc pc = .ok (.sipush z, 3)) (hv : (Int16.ofInt z).toInt32 = v) (kk : J X k n ws lv (pc + 3) (.int v :: st)) : J X k n ws lv pc (st) := by
  obtain ⟨⟨p, l', e, R, s, m, args, below, meth, c⟩, G', A, nL', Q⟩ := X
  obtain ⟨rfl, rfl, rfl, rfl, hx, hb, hml, hown, hts, hK, hlk, hAq, hFz⟩ := C
  intro H locs ls hP hD hS hl
  exact lv_sipush hx hb hd hv (kk H locs ls hP hD hS hl)
theorem j_lconst {X : jX} {l : Launch} {G : jG} {nL : Nat} {Rm : Room} {cc : ByteArray} {own : String} {Ts : List Cond} {k n : Nat} {ws : va_W} {lv : List (Nat × Value)} {pc : Nat} {st : List Value} {z : Fin 2} {v : Int64} (C : jC X l G nL Rm cc own Ts) (hd : decode cc pc = .ok (.lconst z, 1)) (hv : Int64.ofNat (z : Nat) = v) (kk : J X k n ws lv (pc + 1) (.long v :: st)) : J X k n ws lv pc (st) := by
  obtain ⟨⟨p, l', e, R, s, m, args, below, meth, c⟩, G', A, nL', Q⟩ := X
  obtain ⟨rfl, rfl, rfl, rfl, hx, hb, hml, hown, hts, hK, hlk, hAq, hFz⟩ := C
  intro H locs ls hP hD hS hl
  exact lv_lconst hx hb hd hv (kk H locs ls hP hD hS hl)
theorem j_null {X : jX} {l : Launch} {G : jG} {nL : Nat} {Rm : Room} {cc : ByteArray} {own : String} {Ts : List Cond} {k n : Nat} {ws : va_W} {lv : List (Nat × Value)} {pc : Nat} {st : List Value} (C : jC X l G nL Rm cc own Ts) (hd : decode cc pc = .ok (.aconst_null, 1)) (kk : J X k n ws lv (pc + 1) (.null :: st)) : J X k n ws lv pc (st) := by
  obtain ⟨⟨p, l', e, R, s, m, args, below, meth, c⟩, G', A, nL', Q⟩ := X
  obtain ⟨rfl, rfl, rfl, rfl, hx, hb, hml, hown, hts, hK, hlk, hAq, hFz⟩ := C
  intro H locs ls hP hD hS hl
  exact lv_null hx hb hd (kk H locs ls hP hD hS hl)
theorem j_ldc {X : jX} {l : Launch} {G : jG} {nL : Nat} {Rm : Room} {cc : ByteArray} {own : String} {Ts : List Cond} {k n : Nat} {ws : va_W} {lv : List (Nat × Value)} {pc : Nat} {st : List Value} {i : Nat} {v : Int32} (C : jC X l G nL Rm cc own Ts) (hd : decode cc pc = .ok (.ldc i, 2)) (hw : Cond.constant own i v ∈ Ts) (kk : J X k n ws lv (pc + 2) (.int v :: st)) : J X k n ws lv pc (st) := by
  obtain ⟨⟨p, l', e, R, s, m, args, below, meth, c⟩, G', A, nL', Q⟩ := X
  obtain ⟨rfl, rfl, rfl, rfl, hx, hb, hml, hown, hts, hK, hlk, hAq, hFz⟩ := C
  intro H locs ls hP hD hS hl
  exact lv_ldc hx hb hown (hts _ hw) hd (kk H locs ls hP hD hS hl)
theorem j_ldcw {X : jX} {l : Launch} {G : jG} {nL : Nat} {Rm : Room} {cc : ByteArray} {own : String} {Ts : List Cond} {k n : Nat} {ws : va_W} {lv : List (Nat × Value)} {pc : Nat} {st : List Value} {i : Nat} {v : Int32} (C : jC X l G nL Rm cc own Ts) (hd : decode cc pc = .ok (.ldc_w i, 3)) (hw : Cond.constant own i v ∈ Ts) (kk : J X k n ws lv (pc + 3) (.int v :: st)) : J X k n ws lv pc (st) := by
  obtain ⟨⟨p, l', e, R, s, m, args, below, meth, c⟩, G', A, nL', Q⟩ := X
  obtain ⟨rfl, rfl, rfl, rfl, hx, hb, hml, hown, hts, hK, hlk, hAq, hFz⟩ := C
  intro H locs ls hP hD hS hl
  exact lv_ldcw hx hb hown (hts _ hw) hd (kk H locs ls hP hD hS hl)
theorem j_ldc2 {X : jX} {l : Launch} {G : jG} {nL : Nat} {Rm : Room} {cc : ByteArray} {own : String} {Ts : List Cond} {k n : Nat} {ws : va_W} {lv : List (Nat × Value)} {pc : Nat} {st : List Value} {i : Nat} {v : Int64} (C : jC X l G nL Rm cc own Ts) (hd : decode cc pc = .ok (.ldc2_w i, 3)) (hw : Cond.constantLong own i v ∈ Ts) (kk : J X k n ws lv (pc + 3) (.long v :: st)) : J X k n ws lv pc (st) := by
  obtain ⟨⟨p, l', e, R, s, m, args, below, meth, c⟩, G', A, nL', Q⟩ := X
  obtain ⟨rfl, rfl, rfl, rfl, hx, hb, hml, hown, hts, hK, hlk, hAq, hFz⟩ := C
  intro H locs ls hP hD hS hl
  exact lv_ldc2 hx hb hown (hts _ hw) hd (kk H locs ls hP hD hS hl)
theorem j_iload_n {X : jX} {l : Launch} {G : jG} {nL : Nat} {Rm : Room} {cc : ByteArray} {own : String} {Ts : List Cond} {k n : Nat} {ws : va_W} {lv : List (Nat × Value)} {pc : Nat} {st : List Value} {kf : Fin 4} {i : Nat} {v : Int32} (C : jC X l G nL Rm cc own Ts) (hd : decode cc pc = .ok (.iload_n kf, 1)) (hi : (kf : Nat) = i) (ix : Nat) (hk : lv[ix]? = some (i, .int v)) (kk : J X k n ws lv (pc + 1) (.int v :: st)) : J X k n ws lv pc (st) := by
  obtain ⟨⟨p, l', e, R, s, m, args, below, meth, c⟩, G', A, nL', Q⟩ := X
  obtain ⟨rfl, rfl, rfl, rfl, hx, hb, hml, hown, hts, hK, hlk, hAq, hFz⟩ := C
  intro H locs ls hP hD hS hl
  exact lv_iload_n hx hb hd hi (lv_at hl ix hk) (kk H locs ls hP hD hS hl)
theorem j_iload {X : jX} {l : Launch} {G : jG} {nL : Nat} {Rm : Room} {cc : ByteArray} {own : String} {Ts : List Cond} {k n : Nat} {ws : va_W} {lv : List (Nat × Value)} {pc : Nat} {st : List Value} {i : Nat} {v : Int32} (C : jC X l G nL Rm cc own Ts) (hd : decode cc pc = .ok (.iload i, 2)) (ix : Nat) (hk : lv[ix]? = some (i, .int v)) (kk : J X k n ws lv (pc + 2) (.int v :: st)) : J X k n ws lv pc (st) := by
  obtain ⟨⟨p, l', e, R, s, m, args, below, meth, c⟩, G', A, nL', Q⟩ := X
  obtain ⟨rfl, rfl, rfl, rfl, hx, hb, hml, hown, hts, hK, hlk, hAq, hFz⟩ := C
  intro H locs ls hP hD hS hl
  exact lv_iload hx hb hd (lv_at hl ix hk) (kk H locs ls hP hD hS hl)
theorem j_lload_n {X : jX} {l : Launch} {G : jG} {nL : Nat} {Rm : Room} {cc : ByteArray} {own : String} {Ts : List Cond} {k n : Nat} {ws : va_W} {lv : List (Nat × Value)} {pc : Nat} {st : List Value} {kf : Fin 4} {i : Nat} {v : Int64} (C : jC X l G nL Rm cc own Ts) (hd : decode cc pc = .ok (.lload_n kf, 1)) (hi : (kf : Nat) = i) (ix : Nat) (hk : lv[ix]? = some (i, .long v)) (kk : J X k n ws lv (pc + 1) (.long v :: st)) : J X k n ws lv pc (st) := by
  obtain ⟨⟨p, l', e, R, s, m, args, below, meth, c⟩, G', A, nL', Q⟩ := X
  obtain ⟨rfl, rfl, rfl, rfl, hx, hb, hml, hown, hts, hK, hlk, hAq, hFz⟩ := C
  intro H locs ls hP hD hS hl
  exact lv_lload_n hx hb hd hi (lv_at hl ix hk) (kk H locs ls hP hD hS hl)
theorem j_lload {X : jX} {l : Launch} {G : jG} {nL : Nat} {Rm : Room} {cc : ByteArray} {own : String} {Ts : List Cond} {k n : Nat} {ws : va_W} {lv : List (Nat × Value)} {pc : Nat} {st : List Value} {i : Nat} {v : Int64} (C : jC X l G nL Rm cc own Ts) (hd : decode cc pc = .ok (.lload i, 2)) (ix : Nat) (hk : lv[ix]? = some (i, .long v)) (kk : J X k n ws lv (pc + 2) (.long v :: st)) : J X k n ws lv pc (st) := by
  obtain ⟨⟨p, l', e, R, s, m, args, below, meth, c⟩, G', A, nL', Q⟩ := X
  obtain ⟨rfl, rfl, rfl, rfl, hx, hb, hml, hown, hts, hK, hlk, hAq, hFz⟩ := C
  intro H locs ls hP hD hS hl
  exact lv_lload hx hb hd (lv_at hl ix hk) (kk H locs ls hP hD hS hl)
theorem j_aload_n {X : jX} {l : Launch} {G : jG} {nL : Nat} {Rm : Room} {cc : ByteArray} {own : String} {Ts : List Cond} {k n : Nat} {ws : va_W} {lv : List (Nat × Value)} {pc : Nat} {st : List Value} {kf : Fin 4} {i : Nat} {v : Nat} (C : jC X l G nL Rm cc own Ts) (hd : decode cc pc = .ok (.aload_n kf, 1)) (hi : (kf : Nat) = i) (ix : Nat) (hk : lv[ix]? = some (i, .ref v)) (kk : J X k n ws lv (pc + 1) (.ref v :: st)) : J X k n ws lv pc (st) := by
  obtain ⟨⟨p, l', e, R, s, m, args, below, meth, c⟩, G', A, nL', Q⟩ := X
  obtain ⟨rfl, rfl, rfl, rfl, hx, hb, hml, hown, hts, hK, hlk, hAq, hFz⟩ := C
  intro H locs ls hP hD hS hl
  exact lv_aload_n hx hb hd hi (lv_at hl ix hk) (kk H locs ls hP hD hS hl)
theorem j_aload {X : jX} {l : Launch} {G : jG} {nL : Nat} {Rm : Room} {cc : ByteArray} {own : String} {Ts : List Cond} {k n : Nat} {ws : va_W} {lv : List (Nat × Value)} {pc : Nat} {st : List Value} {i : Nat} {v : Nat} (C : jC X l G nL Rm cc own Ts) (hd : decode cc pc = .ok (.aload i, 2)) (ix : Nat) (hk : lv[ix]? = some (i, .ref v)) (kk : J X k n ws lv (pc + 2) (.ref v :: st)) : J X k n ws lv pc (st) := by
  obtain ⟨⟨p, l', e, R, s, m, args, below, meth, c⟩, G', A, nL', Q⟩ := X
  obtain ⟨rfl, rfl, rfl, rfl, hx, hb, hml, hown, hts, hK, hlk, hAq, hFz⟩ := C
  intro H locs ls hP hD hS hl
  exact lv_aload hx hb hd (lv_at hl ix hk) (kk H locs ls hP hD hS hl)
theorem j_anull_n {X : jX} {l : Launch} {G : jG} {nL : Nat} {Rm : Room} {cc : ByteArray} {own : String} {Ts : List Cond} {k n : Nat} {ws : va_W} {lv : List (Nat × Value)} {pc : Nat} {st : List Value} {kf : Fin 4} {i : Nat} (C : jC X l G nL Rm cc own Ts) (hd : decode cc pc = .ok (.aload_n kf, 1)) (hi : (kf : Nat) = i) (ix : Nat) (hk : lv[ix]? = some (i, .null)) (kk : J X k n ws lv (pc + 1) (.null :: st)) : J X k n ws lv pc (st) := by
  obtain ⟨⟨p, l', e, R, s, m, args, below, meth, c⟩, G', A, nL', Q⟩ := X
  obtain ⟨rfl, rfl, rfl, rfl, hx, hb, hml, hown, hts, hK, hlk, hAq, hFz⟩ := C
  intro H locs ls hP hD hS hl
  exact lv_aload_nN hx hb hd hi (lv_at hl ix hk) (kk H locs ls hP hD hS hl)
theorem j_istore_n {X : jX} {l : Launch} {G : jG} {nL : Nat} {Rm : Room} {cc : ByteArray} {own : String} {Ts : List Cond} {k n : Nat} {ws : va_W} {lv : List (Nat × Value)} {pc : Nat} {st : List Value} {lv2 : List (Nat × Value)} {kf : Fin 4} {i : Nat} {v : Int32} (C : jC X l G nL Rm cc own Ts) (hd : decode cc pc = .ok (.istore_n kf, 1)) (hi : (kf : Nat) = i) (hn : i < nL) (ks : List Nat) (hp : lv_pick (jset lv i (.int v)) ks = lv2) (kk : J X k n ws lv2 (pc + 1) st) : J X k n ws lv pc (.int v :: st) := by
  obtain ⟨⟨p, l', e, R, s, m, args, below, meth, c⟩, G', A, nL', Q⟩ := X
  obtain ⟨rfl, rfl, rfl, rfl, hx, hb, hml, hown, hts, hK, hlk, hAq, hFz⟩ := C
  intro H locs ls hP hD hS hl
  exact lv_istore_n hx hb hd hi hl hn rfl (fun ls hl => kk H locs ls hP hD hS (lv_sub hl ks hp))
theorem j_istore {X : jX} {l : Launch} {G : jG} {nL : Nat} {Rm : Room} {cc : ByteArray} {own : String} {Ts : List Cond} {k n : Nat} {ws : va_W} {lv : List (Nat × Value)} {pc : Nat} {st : List Value} {lv2 : List (Nat × Value)} {i : Nat} {v : Int32} (C : jC X l G nL Rm cc own Ts) (hd : decode cc pc = .ok (.istore i, 2)) (hn : i < nL) (ks : List Nat) (hp : lv_pick (jset lv i (.int v)) ks = lv2) (kk : J X k n ws lv2 (pc + 2) st) : J X k n ws lv pc (.int v :: st) := by
  obtain ⟨⟨p, l', e, R, s, m, args, below, meth, c⟩, G', A, nL', Q⟩ := X
  obtain ⟨rfl, rfl, rfl, rfl, hx, hb, hml, hown, hts, hK, hlk, hAq, hFz⟩ := C
  intro H locs ls hP hD hS hl
  exact lv_istore hx hb hd hl hn rfl (fun ls hl => kk H locs ls hP hD hS (lv_sub hl ks hp))
theorem j_lstore_n {X : jX} {l : Launch} {G : jG} {nL : Nat} {Rm : Room} {cc : ByteArray} {own : String} {Ts : List Cond} {k n : Nat} {ws : va_W} {lv : List (Nat × Value)} {pc : Nat} {st : List Value} {lv2 : List (Nat × Value)} {kf : Fin 4} {i : Nat} {v : Int64} (C : jC X l G nL Rm cc own Ts) (hd : decode cc pc = .ok (.lstore_n kf, 1)) (hi : (kf : Nat) = i) (hn : i + 1 < nL) (ks : List Nat) (hp : lv_pick (jset2 lv i (.long v)) ks = lv2) (kk : J X k n ws lv2 (pc + 1) st) : J X k n ws lv pc (.long v :: st) := by
  obtain ⟨⟨p, l', e, R, s, m, args, below, meth, c⟩, G', A, nL', Q⟩ := X
  obtain ⟨rfl, rfl, rfl, rfl, hx, hb, hml, hown, hts, hK, hlk, hAq, hFz⟩ := C
  intro H locs ls hP hD hS hl
  exact lv_lstore_n hx hb hd hi hl hn rfl (fun ls hl => kk H locs ls hP hD hS (lv_sub hl ks hp))
theorem j_lstore {X : jX} {l : Launch} {G : jG} {nL : Nat} {Rm : Room} {cc : ByteArray} {own : String} {Ts : List Cond} {k n : Nat} {ws : va_W} {lv : List (Nat × Value)} {pc : Nat} {st : List Value} {lv2 : List (Nat × Value)} {i : Nat} {v : Int64} (C : jC X l G nL Rm cc own Ts) (hd : decode cc pc = .ok (.lstore i, 2)) (hn : i + 1 < nL) (ks : List Nat) (hp : lv_pick (jset2 lv i (.long v)) ks = lv2) (kk : J X k n ws lv2 (pc + 2) st) : J X k n ws lv pc (.long v :: st) := by
  obtain ⟨⟨p, l', e, R, s, m, args, below, meth, c⟩, G', A, nL', Q⟩ := X
  obtain ⟨rfl, rfl, rfl, rfl, hx, hb, hml, hown, hts, hK, hlk, hAq, hFz⟩ := C
  intro H locs ls hP hD hS hl
  exact lv_lstore hx hb hd hl hn rfl (fun ls hl => kk H locs ls hP hD hS (lv_sub hl ks hp))
theorem j_astore_n {X : jX} {l : Launch} {G : jG} {nL : Nat} {Rm : Room} {cc : ByteArray} {own : String} {Ts : List Cond} {k n : Nat} {ws : va_W} {lv : List (Nat × Value)} {pc : Nat} {st : List Value} {lv2 : List (Nat × Value)} {kf : Fin 4} {i : Nat} {v : Nat} (C : jC X l G nL Rm cc own Ts) (hd : decode cc pc = .ok (.astore_n kf, 1)) (hi : (kf : Nat) = i) (hn : i < nL) (ks : List Nat) (hp : lv_pick (jset lv i (.ref v)) ks = lv2) (kk : J X k n ws lv2 (pc + 1) st) : J X k n ws lv pc (.ref v :: st) := by
  obtain ⟨⟨p, l', e, R, s, m, args, below, meth, c⟩, G', A, nL', Q⟩ := X
  obtain ⟨rfl, rfl, rfl, rfl, hx, hb, hml, hown, hts, hK, hlk, hAq, hFz⟩ := C
  intro H locs ls hP hD hS hl
  exact lv_astore_n hx hb hd hi hl hn rfl (fun ls hl => kk H locs ls hP hD hS (lv_sub hl ks hp))
theorem j_astore {X : jX} {l : Launch} {G : jG} {nL : Nat} {Rm : Room} {cc : ByteArray} {own : String} {Ts : List Cond} {k n : Nat} {ws : va_W} {lv : List (Nat × Value)} {pc : Nat} {st : List Value} {lv2 : List (Nat × Value)} {i : Nat} {v : Nat} (C : jC X l G nL Rm cc own Ts) (hd : decode cc pc = .ok (.astore i, 2)) (hn : i < nL) (ks : List Nat) (hp : lv_pick (jset lv i (.ref v)) ks = lv2) (kk : J X k n ws lv2 (pc + 2) st) : J X k n ws lv pc (.ref v :: st) := by
  obtain ⟨⟨p, l', e, R, s, m, args, below, meth, c⟩, G', A, nL', Q⟩ := X
  obtain ⟨rfl, rfl, rfl, rfl, hx, hb, hml, hown, hts, hK, hlk, hAq, hFz⟩ := C
  intro H locs ls hP hD hS hl
  exact lv_astore hx hb hd hl hn rfl (fun ls hl => kk H locs ls hP hD hS (lv_sub hl ks hp))
theorem j_iinc {X : jX} {l : Launch} {G : jG} {nL : Nat} {Rm : Room} {cc : ByteArray} {own : String} {Ts : List Cond} {k n : Nat} {ws : va_W} {lv : List (Nat × Value)} {pc : Nat} {st : List Value} {lv2 : List (Nat × Value)} {i : Nat} {z : Int} {x w : Int32} (C : jC X l G nL Rm cc own Ts) (hd : decode cc pc = .ok (.iinc i z, 3)) (hw : Int32.ofInt z = w) (hn : i < nL) (ix : Nat) (hk : lv[ix]? = some (i, .int x)) (ks : List Nat) (hp : lv_pick (jset lv i (.int (x + w))) ks = lv2) (kk : J X k n ws lv2 (pc + 3) st) : J X k n ws lv pc st := by
  obtain ⟨⟨p, l', e, R, s, m, args, below, meth, c⟩, G', A, nL', Q⟩ := X
  obtain ⟨rfl, rfl, rfl, rfl, hx, hb, hml, hown, hts, hK, hlk, hAq, hFz⟩ := C
  intro H locs ls hP hD hS hl
  subst hw
  exact lv_iinc hx hb hd hl hk rfl hn rfl (fun ls hl => kk H locs ls hP hD hS (lv_sub hl ks hp))
theorem j_sub {X : jX} {k n : Nat} {ws : va_W} {lv : List (Nat × Value)} {pc : Nat} {st : List Value} {lv2 : List (Nat × Value)} (ks : List Nat) (hp : lv_pick lv ks = lv2) (kk : J X k n ws lv2 pc st) : J X k n ws lv pc st := by
  obtain ⟨⟨p, l', e, R, s, m, args, below, meth, c⟩, G', A, nL', Q⟩ := X
  intro H locs ls hP hD hS hl
  exact kk H locs ls hP hD hS (lv_sub hl ks hp)
theorem j_iadd {X : jX} {l : Launch} {G : jG} {nL : Nat} {Rm : Room} {cc : ByteArray} {own : String} {Ts : List Cond} {k n : Nat} {ws : va_W} {lv : List (Nat × Value)} {pc : Nat} {st : List Value} {x y : Int32} (C : jC X l G nL Rm cc own Ts) (hd : decode cc pc = .ok (.iadd, 1)) (kk : J X k n ws lv (pc + 1) (.int (x + y) :: st)) : J X k n ws lv pc (.int y :: .int x :: st) := by
  obtain ⟨⟨p, l', e, R, s, m, args, below, meth, c⟩, G', A, nL', Q⟩ := X
  obtain ⟨rfl, rfl, rfl, rfl, hx, hb, hml, hown, hts, hK, hlk, hAq, hFz⟩ := C
  intro H locs ls hP hD hS hl
  exact lv_iadd hx hb hd (kk H locs ls hP hD hS hl)
theorem j_isub {X : jX} {l : Launch} {G : jG} {nL : Nat} {Rm : Room} {cc : ByteArray} {own : String} {Ts : List Cond} {k n : Nat} {ws : va_W} {lv : List (Nat × Value)} {pc : Nat} {st : List Value} {x y : Int32} (C : jC X l G nL Rm cc own Ts) (hd : decode cc pc = .ok (.isub, 1)) (kk : J X k n ws lv (pc + 1) (.int (x - y) :: st)) : J X k n ws lv pc (.int y :: .int x :: st) := by
  obtain ⟨⟨p, l', e, R, s, m, args, below, meth, c⟩, G', A, nL', Q⟩ := X
  obtain ⟨rfl, rfl, rfl, rfl, hx, hb, hml, hown, hts, hK, hlk, hAq, hFz⟩ := C
  intro H locs ls hP hD hS hl
  exact lv_isub hx hb hd (kk H locs ls hP hD hS hl)
theorem j_imul {X : jX} {l : Launch} {G : jG} {nL : Nat} {Rm : Room} {cc : ByteArray} {own : String} {Ts : List Cond} {k n : Nat} {ws : va_W} {lv : List (Nat × Value)} {pc : Nat} {st : List Value} {x y : Int32} (C : jC X l G nL Rm cc own Ts) (hd : decode cc pc = .ok (.imul, 1)) (kk : J X k n ws lv (pc + 1) (.int (x * y) :: st)) : J X k n ws lv pc (.int y :: .int x :: st) := by
  obtain ⟨⟨p, l', e, R, s, m, args, below, meth, c⟩, G', A, nL', Q⟩ := X
  obtain ⟨rfl, rfl, rfl, rfl, hx, hb, hml, hown, hts, hK, hlk, hAq, hFz⟩ := C
  intro H locs ls hP hD hS hl
  exact lv_imul hx hb hd (kk H locs ls hP hD hS hl)
theorem j_iand {X : jX} {l : Launch} {G : jG} {nL : Nat} {Rm : Room} {cc : ByteArray} {own : String} {Ts : List Cond} {k n : Nat} {ws : va_W} {lv : List (Nat × Value)} {pc : Nat} {st : List Value} {x y : Int32} (C : jC X l G nL Rm cc own Ts) (hd : decode cc pc = .ok (.iand, 1)) (kk : J X k n ws lv (pc + 1) (.int (x &&& y) :: st)) : J X k n ws lv pc (.int y :: .int x :: st) := by
  obtain ⟨⟨p, l', e, R, s, m, args, below, meth, c⟩, G', A, nL', Q⟩ := X
  obtain ⟨rfl, rfl, rfl, rfl, hx, hb, hml, hown, hts, hK, hlk, hAq, hFz⟩ := C
  intro H locs ls hP hD hS hl
  exact lv_iand hx hb hd (kk H locs ls hP hD hS hl)
theorem j_ior {X : jX} {l : Launch} {G : jG} {nL : Nat} {Rm : Room} {cc : ByteArray} {own : String} {Ts : List Cond} {k n : Nat} {ws : va_W} {lv : List (Nat × Value)} {pc : Nat} {st : List Value} {x y : Int32} (C : jC X l G nL Rm cc own Ts) (hd : decode cc pc = .ok (.ior, 1)) (kk : J X k n ws lv (pc + 1) (.int (x ||| y) :: st)) : J X k n ws lv pc (.int y :: .int x :: st) := by
  obtain ⟨⟨p, l', e, R, s, m, args, below, meth, c⟩, G', A, nL', Q⟩ := X
  obtain ⟨rfl, rfl, rfl, rfl, hx, hb, hml, hown, hts, hK, hlk, hAq, hFz⟩ := C
  intro H locs ls hP hD hS hl
  exact lv_ior hx hb hd (kk H locs ls hP hD hS hl)
theorem j_ixor {X : jX} {l : Launch} {G : jG} {nL : Nat} {Rm : Room} {cc : ByteArray} {own : String} {Ts : List Cond} {k n : Nat} {ws : va_W} {lv : List (Nat × Value)} {pc : Nat} {st : List Value} {x y : Int32} (C : jC X l G nL Rm cc own Ts) (hd : decode cc pc = .ok (.ixor, 1)) (kk : J X k n ws lv (pc + 1) (.int (x ^^^ y) :: st)) : J X k n ws lv pc (.int y :: .int x :: st) := by
  obtain ⟨⟨p, l', e, R, s, m, args, below, meth, c⟩, G', A, nL', Q⟩ := X
  obtain ⟨rfl, rfl, rfl, rfl, hx, hb, hml, hown, hts, hK, hlk, hAq, hFz⟩ := C
  intro H locs ls hP hD hS hl
  exact lv_ixor hx hb hd (kk H locs ls hP hD hS hl)
theorem j_ishl {X : jX} {l : Launch} {G : jG} {nL : Nat} {Rm : Room} {cc : ByteArray} {own : String} {Ts : List Cond} {k n : Nat} {ws : va_W} {lv : List (Nat × Value)} {pc : Nat} {st : List Value} {x y : Int32} (C : jC X l G nL Rm cc own Ts) (hd : decode cc pc = .ok (.ishl, 1)) (kk : J X k n ws lv (pc + 1) (.int (x <<< (y &&& 31)) :: st)) : J X k n ws lv pc (.int y :: .int x :: st) := by
  obtain ⟨⟨p, l', e, R, s, m, args, below, meth, c⟩, G', A, nL', Q⟩ := X
  obtain ⟨rfl, rfl, rfl, rfl, hx, hb, hml, hown, hts, hK, hlk, hAq, hFz⟩ := C
  intro H locs ls hP hD hS hl
  exact lv_ishl hx hb hd (kk H locs ls hP hD hS hl)
theorem j_ishr {X : jX} {l : Launch} {G : jG} {nL : Nat} {Rm : Room} {cc : ByteArray} {own : String} {Ts : List Cond} {k n : Nat} {ws : va_W} {lv : List (Nat × Value)} {pc : Nat} {st : List Value} {x y : Int32} (C : jC X l G nL Rm cc own Ts) (hd : decode cc pc = .ok (.ishr, 1)) (kk : J X k n ws lv (pc + 1) (.int (x >>> (y &&& 31)) :: st)) : J X k n ws lv pc (.int y :: .int x :: st) := by
  obtain ⟨⟨p, l', e, R, s, m, args, below, meth, c⟩, G', A, nL', Q⟩ := X
  obtain ⟨rfl, rfl, rfl, rfl, hx, hb, hml, hown, hts, hK, hlk, hAq, hFz⟩ := C
  intro H locs ls hP hD hS hl
  exact lv_ishr hx hb hd (kk H locs ls hP hD hS hl)
theorem j_idiv {X : jX} {l : Launch} {G : jG} {nL : Nat} {Rm : Room} {cc : ByteArray} {own : String} {Ts : List Cond} {k n : Nat} {ws : va_W} {lv : List (Nat × Value)} {pc : Nat} {st : List Value} {x y : Int32} (C : jC X l G nL Rm cc own Ts) (hd : decode cc pc = .ok (.idiv, 1)) (hne : ¬ y = 0) (kk : J X k n ws lv (pc + 1) (.int (x / y) :: st)) : J X k n ws lv pc (.int y :: .int x :: st) := by
  obtain ⟨⟨p, l', e, R, s, m, args, below, meth, c⟩, G', A, nL', Q⟩ := X
  obtain ⟨rfl, rfl, rfl, rfl, hx, hb, hml, hown, hts, hK, hlk, hAq, hFz⟩ := C
  intro H locs ls hP hD hS hl
  exact lv_idiv hx hb hd hne (kk H locs ls hP hD hS hl)
theorem j_irem {X : jX} {l : Launch} {G : jG} {nL : Nat} {Rm : Room} {cc : ByteArray} {own : String} {Ts : List Cond} {k n : Nat} {ws : va_W} {lv : List (Nat × Value)} {pc : Nat} {st : List Value} {x y : Int32} (C : jC X l G nL Rm cc own Ts) (hd : decode cc pc = .ok (.irem, 1)) (hne : ¬ y = 0) (kk : J X k n ws lv (pc + 1) (.int (x - x / y * y) :: st)) : J X k n ws lv pc (.int y :: .int x :: st) := by
  obtain ⟨⟨p, l', e, R, s, m, args, below, meth, c⟩, G', A, nL', Q⟩ := X
  obtain ⟨rfl, rfl, rfl, rfl, hx, hb, hml, hown, hts, hK, hlk, hAq, hFz⟩ := C
  intro H locs ls hP hD hS hl
  exact lv_irem hx hb hd hne (kk H locs ls hP hD hS hl)
theorem j_ineg {X : jX} {l : Launch} {G : jG} {nL : Nat} {Rm : Room} {cc : ByteArray} {own : String} {Ts : List Cond} {k n : Nat} {ws : va_W} {lv : List (Nat × Value)} {pc : Nat} {st : List Value} {x : Int32} (C : jC X l G nL Rm cc own Ts) (hd : decode cc pc = .ok (.ineg, 1)) (kk : J X k n ws lv (pc + 1) (.int (-x) :: st)) : J X k n ws lv pc (.int x :: st) := by
  obtain ⟨⟨p, l', e, R, s, m, args, below, meth, c⟩, G', A, nL', Q⟩ := X
  obtain ⟨rfl, rfl, rfl, rfl, hx, hb, hml, hown, hts, hK, hlk, hAq, hFz⟩ := C
  intro H locs ls hP hD hS hl
  exact lv_ineg hx hb hd (kk H locs ls hP hD hS hl)
theorem j_iushr {X : jX} {l : Launch} {G : jG} {nL : Nat} {Rm : Room} {cc : ByteArray} {own : String} {Ts : List Cond} {k n : Nat} {ws : va_W} {lv : List (Nat × Value)} {pc : Nat} {st : List Value} {x y : Int32} (C : jC X l G nL Rm cc own Ts) (hd : decode cc pc = .ok (.iushr, 1)) (kk : J X k n ws lv (pc + 1) (.int (x.toUInt32 >>> (y.toUInt32 &&& Int32.toUInt32 31)).toInt32 :: st)) : J X k n ws lv pc (.int y :: .int x :: st) := by
  obtain ⟨⟨p, l', e, R, s, m, args, below, meth, c⟩, G', A, nL', Q⟩ := X
  obtain ⟨rfl, rfl, rfl, rfl, hx, hb, hml, hown, hts, hK, hlk, hAq, hFz⟩ := C
  intro H locs ls hP hD hS hl
  exact lv_iushr hx hb hd rfl (kk H locs ls hP hD hS hl)
theorem j_i2l {X : jX} {l : Launch} {G : jG} {nL : Nat} {Rm : Room} {cc : ByteArray} {own : String} {Ts : List Cond} {k n : Nat} {ws : va_W} {lv : List (Nat × Value)} {pc : Nat} {st : List Value} {x : Int32} (C : jC X l G nL Rm cc own Ts) (hd : decode cc pc = .ok (.i2l, 1)) (kk : J X k n ws lv (pc + 1) (.long x.toInt64 :: st)) : J X k n ws lv pc (.int x :: st) := by
  obtain ⟨⟨p, l', e, R, s, m, args, below, meth, c⟩, G', A, nL', Q⟩ := X
  obtain ⟨rfl, rfl, rfl, rfl, hx, hb, hml, hown, hts, hK, hlk, hAq, hFz⟩ := C
  intro H locs ls hP hD hS hl
  exact lv_i2l hx hb hd rfl (kk H locs ls hP hD hS hl)
theorem j_i2b {X : jX} {l : Launch} {G : jG} {nL : Nat} {Rm : Room} {cc : ByteArray} {own : String} {Ts : List Cond} {k n : Nat} {ws : va_W} {lv : List (Nat × Value)} {pc : Nat} {st : List Value} {x : Int32} (C : jC X l G nL Rm cc own Ts) (hd : decode cc pc = .ok (.i2b, 1)) (kk : J X k n ws lv (pc + 1) (.int x.toInt8.toInt32 :: st)) : J X k n ws lv pc (.int x :: st) := by
  obtain ⟨⟨p, l', e, R, s, m, args, below, meth, c⟩, G', A, nL', Q⟩ := X
  obtain ⟨rfl, rfl, rfl, rfl, hx, hb, hml, hown, hts, hK, hlk, hAq, hFz⟩ := C
  intro H locs ls hP hD hS hl
  exact lv_i2b hx hb hd rfl (kk H locs ls hP hD hS hl)
theorem j_ladd {X : jX} {l : Launch} {G : jG} {nL : Nat} {Rm : Room} {cc : ByteArray} {own : String} {Ts : List Cond} {k n : Nat} {ws : va_W} {lv : List (Nat × Value)} {pc : Nat} {st : List Value} {x y : Int64} (C : jC X l G nL Rm cc own Ts) (hd : decode cc pc = .ok (.ladd, 1)) (kk : J X k n ws lv (pc + 1) (.long (x + y) :: st)) : J X k n ws lv pc (.long y :: .long x :: st) := by
  obtain ⟨⟨p, l', e, R, s, m, args, below, meth, c⟩, G', A, nL', Q⟩ := X
  obtain ⟨rfl, rfl, rfl, rfl, hx, hb, hml, hown, hts, hK, hlk, hAq, hFz⟩ := C
  intro H locs ls hP hD hS hl
  exact lv_ladd hx hb hd (kk H locs ls hP hD hS hl)
theorem j_lmul {X : jX} {l : Launch} {G : jG} {nL : Nat} {Rm : Room} {cc : ByteArray} {own : String} {Ts : List Cond} {k n : Nat} {ws : va_W} {lv : List (Nat × Value)} {pc : Nat} {st : List Value} {x y : Int64} (C : jC X l G nL Rm cc own Ts) (hd : decode cc pc = .ok (.lmul, 1)) (kk : J X k n ws lv (pc + 1) (.long (x * y) :: st)) : J X k n ws lv pc (.long y :: .long x :: st) := by
  obtain ⟨⟨p, l', e, R, s, m, args, below, meth, c⟩, G', A, nL', Q⟩ := X
  obtain ⟨rfl, rfl, rfl, rfl, hx, hb, hml, hown, hts, hK, hlk, hAq, hFz⟩ := C
  intro H locs ls hP hD hS hl
  exact lv_lmul hx hb hd (kk H locs ls hP hD hS hl)
theorem j_lor {X : jX} {l : Launch} {G : jG} {nL : Nat} {Rm : Room} {cc : ByteArray} {own : String} {Ts : List Cond} {k n : Nat} {ws : va_W} {lv : List (Nat × Value)} {pc : Nat} {st : List Value} {x y : Int64} (C : jC X l G nL Rm cc own Ts) (hd : decode cc pc = .ok (.lor, 1)) (kk : J X k n ws lv (pc + 1) (.long (x ||| y) :: st)) : J X k n ws lv pc (.long y :: .long x :: st) := by
  obtain ⟨⟨p, l', e, R, s, m, args, below, meth, c⟩, G', A, nL', Q⟩ := X
  obtain ⟨rfl, rfl, rfl, rfl, hx, hb, hml, hown, hts, hK, hlk, hAq, hFz⟩ := C
  intro H locs ls hP hD hS hl
  exact lv_lor hx hb hd (kk H locs ls hP hD hS hl)
theorem j_lshl {X : jX} {l : Launch} {G : jG} {nL : Nat} {Rm : Room} {cc : ByteArray} {own : String} {Ts : List Cond} {k n : Nat} {ws : va_W} {lv : List (Nat × Value)} {pc : Nat} {st : List Value} {x : Int64} {y : Int32} (C : jC X l G nL Rm cc own Ts) (hd : decode cc pc = .ok (.lshl, 1)) (kk : J X k n ws lv (pc + 1) (.long (x <<< (y.toInt64 &&& 63)) :: st)) : J X k n ws lv pc (.int y :: .long x :: st) := by
  obtain ⟨⟨p, l', e, R, s, m, args, below, meth, c⟩, G', A, nL', Q⟩ := X
  obtain ⟨rfl, rfl, rfl, rfl, hx, hb, hml, hown, hts, hK, hlk, hAq, hFz⟩ := C
  intro H locs ls hP hD hS hl
  exact lv_lshl hx hb hd rfl (kk H locs ls hP hD hS hl)
theorem j_lcmp {X : jX} {l : Launch} {G : jG} {nL : Nat} {Rm : Room} {cc : ByteArray} {own : String} {Ts : List Cond} {k n : Nat} {ws : va_W} {lv : List (Nat × Value)} {pc : Nat} {st : List Value} {x y : Int64} (C : jC X l G nL Rm cc own Ts) (hd : decode cc pc = .ok (.lcmp, 1)) (kk : J X k n ws lv (pc + 1) (.int (lg_cmp x y) :: st)) : J X k n ws lv pc (.long y :: .long x :: st) := by
  obtain ⟨⟨p, l', e, R, s, m, args, below, meth, c⟩, G', A, nL', Q⟩ := X
  obtain ⟨rfl, rfl, rfl, rfl, hx, hb, hml, hown, hts, hK, hlk, hAq, hFz⟩ := C
  intro H locs ls hP hD hS hl
  exact W.lcmp hx hb hd (kk H locs ls hP hD hS hl)
theorem jlc_0 (x y : Int64) : lg_cmp x y = 0 ↔ x = y := by
  unfold lg_cmp
  by_cases h1 : y < x
  · rw [if_pos h1]
    exact ⟨fun h => absurd h (by decide), fun h => absurd h1 (by rw [h]; exact Int64.lt_irrefl)⟩
  · rw [if_neg h1]
    by_cases h2 : x = y
    · rw [if_pos h2]
      exact ⟨fun _ => h2, fun _ => rfl⟩
    · rw [if_neg h2]
      exact ⟨fun h => absurd h (by decide), fun h => absurd h h2⟩
theorem jb_0 (b : Bool) : b2i b = 0 ↔ ¬ b = true := by cases b <;> decide
theorem j_dup {X : jX} {l : Launch} {G : jG} {nL : Nat} {Rm : Room} {cc : ByteArray} {own : String} {Ts : List Cond} {k n : Nat} {ws : va_W} {lv : List (Nat × Value)} {pc : Nat} {st : List Value} {v : Value} (C : jC X l G nL Rm cc own Ts) (hd : decode cc pc = .ok (.dup, 1)) (hc : v.category = 1) (kk : J X k n ws lv (pc + 1) (v :: v :: st)) : J X k n ws lv pc (v :: st) := by
  obtain ⟨⟨p, l', e, R, s, m, args, below, meth, c⟩, G', A, nL', Q⟩ := X
  obtain ⟨rfl, rfl, rfl, rfl, hx, hb, hml, hown, hts, hK, hlk, hAq, hFz⟩ := C
  intro H locs ls hP hD hS hl
  exact lv_dup hx hb hd hc (kk H locs ls hP hD hS hl)
theorem j_pop {X : jX} {l : Launch} {G : jG} {nL : Nat} {Rm : Room} {cc : ByteArray} {own : String} {Ts : List Cond} {k n : Nat} {ws : va_W} {lv : List (Nat × Value)} {pc : Nat} {st : List Value} {v : Value} (C : jC X l G nL Rm cc own Ts) (hd : decode cc pc = .ok (.pop, 1)) (hc : v.category = 1) (kk : J X k n ws lv (pc + 1) (st)) : J X k n ws lv pc (v :: st) := by
  obtain ⟨⟨p, l', e, R, s, m, args, below, meth, c⟩, G', A, nL', Q⟩ := X
  obtain ⟨rfl, rfl, rfl, rfl, hx, hb, hml, hown, hts, hK, hlk, hAq, hFz⟩ := C
  intro H locs ls hP hD hS hl
  exact lv_pop hx hb hd hc (kk H locs ls hP hD hS hl)
theorem j_dup2 {X : jX} {l : Launch} {G : jG} {nL : Nat} {Rm : Room} {cc : ByteArray} {own : String} {Ts : List Cond} {k n : Nat} {ws : va_W} {lv : List (Nat × Value)} {pc : Nat} {st : List Value} {v w : Value} (C : jC X l G nL Rm cc own Ts) (hd : decode cc pc = .ok (.dup2, 1)) (hc : v.category = 1) (hc2 : w.category = 1) (kk : J X k n ws lv (pc + 1) (v :: w :: v :: w :: st)) : J X k n ws lv pc (v :: w :: st) := by
  obtain ⟨⟨p, l', e, R, s, m, args, below, meth, c⟩, G', A, nL', Q⟩ := X
  obtain ⟨rfl, rfl, rfl, rfl, hx, hb, hml, hown, hts, hK, hlk, hAq, hFz⟩ := C
  intro H locs ls hP hD hS hl
  exact lv_dup2_11 hx hb hd hc hc2 (kk H locs ls hP hD hS hl)
theorem j_if_eq {X : jX} {l : Launch} {G : jG} {nL : Nat} {Rm : Room} {cc : ByteArray} {own : String} {Ts : List Cond} {k n : Nat} {ws : va_W} {lv : List (Nat × Value)} {pc : Nat} {st : List Value} {x : Int32} {off : Int} {tgt : Nat} (C : jC X l G nL Rm cc own Ts) (hd : decode cc pc = .ok (.ifCond .eq off, 3)) (ht : (pc : Int) + off = (tgt : Int)) (kt : x = 0 → J X k n ws lv tgt st) (kf : ¬ x = 0 → J X k n ws lv (pc + 3) st) : J X k n ws lv pc (.int x :: st) := by
  obtain ⟨⟨p, l', e, R, s, m, args, below, meth, c⟩, G', A, nL', Q⟩ := X
  obtain ⟨rfl, rfl, rfl, rfl, hx, hb, hml, hown, hts, hK, hlk, hAq, hFz⟩ := C
  intro H locs ls hP hD hS hl
  exact lv_if_eq hx hb hd ht (fun h => kt h H locs ls hP hD hS hl) (fun h => kf h H locs ls hP hD hS hl)
theorem j_icmp_eq {X : jX} {l : Launch} {G : jG} {nL : Nat} {Rm : Room} {cc : ByteArray} {own : String} {Ts : List Cond} {k n : Nat} {ws : va_W} {lv : List (Nat × Value)} {pc : Nat} {st : List Value} {x y : Int32} {off : Int} {tgt : Nat} (C : jC X l G nL Rm cc own Ts) (hd : decode cc pc = .ok (.if_icmp .eq off, 3)) (ht : (pc : Int) + off = (tgt : Int)) (kt : x = y → J X k n ws lv tgt st) (kf : ¬ x = y → J X k n ws lv (pc + 3) st) : J X k n ws lv pc (.int y :: .int x :: st) := by
  obtain ⟨⟨p, l', e, R, s, m, args, below, meth, c⟩, G', A, nL', Q⟩ := X
  obtain ⟨rfl, rfl, rfl, rfl, hx, hb, hml, hown, hts, hK, hlk, hAq, hFz⟩ := C
  intro H locs ls hP hD hS hl
  exact lv_icmp_eq hx hb hd ht (fun h => kt h H locs ls hP hD hS hl) (fun h => kf h H locs ls hP hD hS hl)
theorem j_if_ne {X : jX} {l : Launch} {G : jG} {nL : Nat} {Rm : Room} {cc : ByteArray} {own : String} {Ts : List Cond} {k n : Nat} {ws : va_W} {lv : List (Nat × Value)} {pc : Nat} {st : List Value} {x : Int32} {off : Int} {tgt : Nat} (C : jC X l G nL Rm cc own Ts) (hd : decode cc pc = .ok (.ifCond .ne off, 3)) (ht : (pc : Int) + off = (tgt : Int)) (kt : ¬ x = 0 → J X k n ws lv tgt st) (kf : x = 0 → J X k n ws lv (pc + 3) st) : J X k n ws lv pc (.int x :: st) := by
  obtain ⟨⟨p, l', e, R, s, m, args, below, meth, c⟩, G', A, nL', Q⟩ := X
  obtain ⟨rfl, rfl, rfl, rfl, hx, hb, hml, hown, hts, hK, hlk, hAq, hFz⟩ := C
  intro H locs ls hP hD hS hl
  exact lv_if_ne hx hb hd ht (fun h => kt h H locs ls hP hD hS hl) (fun h => kf h H locs ls hP hD hS hl)
theorem j_icmp_ne {X : jX} {l : Launch} {G : jG} {nL : Nat} {Rm : Room} {cc : ByteArray} {own : String} {Ts : List Cond} {k n : Nat} {ws : va_W} {lv : List (Nat × Value)} {pc : Nat} {st : List Value} {x y : Int32} {off : Int} {tgt : Nat} (C : jC X l G nL Rm cc own Ts) (hd : decode cc pc = .ok (.if_icmp .ne off, 3)) (ht : (pc : Int) + off = (tgt : Int)) (kt : ¬ x = y → J X k n ws lv tgt st) (kf : x = y → J X k n ws lv (pc + 3) st) : J X k n ws lv pc (.int y :: .int x :: st) := by
  obtain ⟨⟨p, l', e, R, s, m, args, below, meth, c⟩, G', A, nL', Q⟩ := X
  obtain ⟨rfl, rfl, rfl, rfl, hx, hb, hml, hown, hts, hK, hlk, hAq, hFz⟩ := C
  intro H locs ls hP hD hS hl
  exact lv_icmp_ne hx hb hd ht (fun h => kt h H locs ls hP hD hS hl) (fun h => kf h H locs ls hP hD hS hl)
theorem j_if_lt {X : jX} {l : Launch} {G : jG} {nL : Nat} {Rm : Room} {cc : ByteArray} {own : String} {Ts : List Cond} {k n : Nat} {ws : va_W} {lv : List (Nat × Value)} {pc : Nat} {st : List Value} {x : Int32} {off : Int} {tgt : Nat} (C : jC X l G nL Rm cc own Ts) (hd : decode cc pc = .ok (.ifCond .lt off, 3)) (ht : (pc : Int) + off = (tgt : Int)) (kt : x < 0 → J X k n ws lv tgt st) (kf : ¬ x < 0 → J X k n ws lv (pc + 3) st) : J X k n ws lv pc (.int x :: st) := by
  obtain ⟨⟨p, l', e, R, s, m, args, below, meth, c⟩, G', A, nL', Q⟩ := X
  obtain ⟨rfl, rfl, rfl, rfl, hx, hb, hml, hown, hts, hK, hlk, hAq, hFz⟩ := C
  intro H locs ls hP hD hS hl
  exact lv_if_lt hx hb hd ht (fun h => kt h H locs ls hP hD hS hl) (fun h => kf h H locs ls hP hD hS hl)
theorem j_icmp_lt {X : jX} {l : Launch} {G : jG} {nL : Nat} {Rm : Room} {cc : ByteArray} {own : String} {Ts : List Cond} {k n : Nat} {ws : va_W} {lv : List (Nat × Value)} {pc : Nat} {st : List Value} {x y : Int32} {off : Int} {tgt : Nat} (C : jC X l G nL Rm cc own Ts) (hd : decode cc pc = .ok (.if_icmp .lt off, 3)) (ht : (pc : Int) + off = (tgt : Int)) (kt : x < y → J X k n ws lv tgt st) (kf : ¬ x < y → J X k n ws lv (pc + 3) st) : J X k n ws lv pc (.int y :: .int x :: st) := by
  obtain ⟨⟨p, l', e, R, s, m, args, below, meth, c⟩, G', A, nL', Q⟩ := X
  obtain ⟨rfl, rfl, rfl, rfl, hx, hb, hml, hown, hts, hK, hlk, hAq, hFz⟩ := C
  intro H locs ls hP hD hS hl
  exact lv_icmp_lt hx hb hd ht (fun h => kt h H locs ls hP hD hS hl) (fun h => kf h H locs ls hP hD hS hl)
theorem j_if_ge {X : jX} {l : Launch} {G : jG} {nL : Nat} {Rm : Room} {cc : ByteArray} {own : String} {Ts : List Cond} {k n : Nat} {ws : va_W} {lv : List (Nat × Value)} {pc : Nat} {st : List Value} {x : Int32} {off : Int} {tgt : Nat} (C : jC X l G nL Rm cc own Ts) (hd : decode cc pc = .ok (.ifCond .ge off, 3)) (ht : (pc : Int) + off = (tgt : Int)) (kt : 0 ≤ x → J X k n ws lv tgt st) (kf : ¬ 0 ≤ x → J X k n ws lv (pc + 3) st) : J X k n ws lv pc (.int x :: st) := by
  obtain ⟨⟨p, l', e, R, s, m, args, below, meth, c⟩, G', A, nL', Q⟩ := X
  obtain ⟨rfl, rfl, rfl, rfl, hx, hb, hml, hown, hts, hK, hlk, hAq, hFz⟩ := C
  intro H locs ls hP hD hS hl
  exact lv_if_ge hx hb hd ht (fun h => kt h H locs ls hP hD hS hl) (fun h => kf h H locs ls hP hD hS hl)
theorem j_icmp_ge {X : jX} {l : Launch} {G : jG} {nL : Nat} {Rm : Room} {cc : ByteArray} {own : String} {Ts : List Cond} {k n : Nat} {ws : va_W} {lv : List (Nat × Value)} {pc : Nat} {st : List Value} {x y : Int32} {off : Int} {tgt : Nat} (C : jC X l G nL Rm cc own Ts) (hd : decode cc pc = .ok (.if_icmp .ge off, 3)) (ht : (pc : Int) + off = (tgt : Int)) (kt : y ≤ x → J X k n ws lv tgt st) (kf : ¬ y ≤ x → J X k n ws lv (pc + 3) st) : J X k n ws lv pc (.int y :: .int x :: st) := by
  obtain ⟨⟨p, l', e, R, s, m, args, below, meth, c⟩, G', A, nL', Q⟩ := X
  obtain ⟨rfl, rfl, rfl, rfl, hx, hb, hml, hown, hts, hK, hlk, hAq, hFz⟩ := C
  intro H locs ls hP hD hS hl
  exact lv_icmp_ge hx hb hd ht (fun h => kt h H locs ls hP hD hS hl) (fun h => kf h H locs ls hP hD hS hl)
theorem j_if_gt {X : jX} {l : Launch} {G : jG} {nL : Nat} {Rm : Room} {cc : ByteArray} {own : String} {Ts : List Cond} {k n : Nat} {ws : va_W} {lv : List (Nat × Value)} {pc : Nat} {st : List Value} {x : Int32} {off : Int} {tgt : Nat} (C : jC X l G nL Rm cc own Ts) (hd : decode cc pc = .ok (.ifCond .gt off, 3)) (ht : (pc : Int) + off = (tgt : Int)) (kt : 0 < x → J X k n ws lv tgt st) (kf : ¬ 0 < x → J X k n ws lv (pc + 3) st) : J X k n ws lv pc (.int x :: st) := by
  obtain ⟨⟨p, l', e, R, s, m, args, below, meth, c⟩, G', A, nL', Q⟩ := X
  obtain ⟨rfl, rfl, rfl, rfl, hx, hb, hml, hown, hts, hK, hlk, hAq, hFz⟩ := C
  intro H locs ls hP hD hS hl
  exact lv_if_gt hx hb hd ht (fun h => kt h H locs ls hP hD hS hl) (fun h => kf h H locs ls hP hD hS hl)
theorem j_icmp_gt {X : jX} {l : Launch} {G : jG} {nL : Nat} {Rm : Room} {cc : ByteArray} {own : String} {Ts : List Cond} {k n : Nat} {ws : va_W} {lv : List (Nat × Value)} {pc : Nat} {st : List Value} {x y : Int32} {off : Int} {tgt : Nat} (C : jC X l G nL Rm cc own Ts) (hd : decode cc pc = .ok (.if_icmp .gt off, 3)) (ht : (pc : Int) + off = (tgt : Int)) (kt : y < x → J X k n ws lv tgt st) (kf : ¬ y < x → J X k n ws lv (pc + 3) st) : J X k n ws lv pc (.int y :: .int x :: st) := by
  obtain ⟨⟨p, l', e, R, s, m, args, below, meth, c⟩, G', A, nL', Q⟩ := X
  obtain ⟨rfl, rfl, rfl, rfl, hx, hb, hml, hown, hts, hK, hlk, hAq, hFz⟩ := C
  intro H locs ls hP hD hS hl
  exact lv_icmp_gt hx hb hd ht (fun h => kt h H locs ls hP hD hS hl) (fun h => kf h H locs ls hP hD hS hl)
theorem j_if_le {X : jX} {l : Launch} {G : jG} {nL : Nat} {Rm : Room} {cc : ByteArray} {own : String} {Ts : List Cond} {k n : Nat} {ws : va_W} {lv : List (Nat × Value)} {pc : Nat} {st : List Value} {x : Int32} {off : Int} {tgt : Nat} (C : jC X l G nL Rm cc own Ts) (hd : decode cc pc = .ok (.ifCond .le off, 3)) (ht : (pc : Int) + off = (tgt : Int)) (kt : x ≤ 0 → J X k n ws lv tgt st) (kf : ¬ x ≤ 0 → J X k n ws lv (pc + 3) st) : J X k n ws lv pc (.int x :: st) := by
  obtain ⟨⟨p, l', e, R, s, m, args, below, meth, c⟩, G', A, nL', Q⟩ := X
  obtain ⟨rfl, rfl, rfl, rfl, hx, hb, hml, hown, hts, hK, hlk, hAq, hFz⟩ := C
  intro H locs ls hP hD hS hl
  exact lv_if_le hx hb hd ht (fun h => kt h H locs ls hP hD hS hl) (fun h => kf h H locs ls hP hD hS hl)
theorem j_icmp_le {X : jX} {l : Launch} {G : jG} {nL : Nat} {Rm : Room} {cc : ByteArray} {own : String} {Ts : List Cond} {k n : Nat} {ws : va_W} {lv : List (Nat × Value)} {pc : Nat} {st : List Value} {x y : Int32} {off : Int} {tgt : Nat} (C : jC X l G nL Rm cc own Ts) (hd : decode cc pc = .ok (.if_icmp .le off, 3)) (ht : (pc : Int) + off = (tgt : Int)) (kt : x ≤ y → J X k n ws lv tgt st) (kf : ¬ x ≤ y → J X k n ws lv (pc + 3) st) : J X k n ws lv pc (.int y :: .int x :: st) := by
  obtain ⟨⟨p, l', e, R, s, m, args, below, meth, c⟩, G', A, nL', Q⟩ := X
  obtain ⟨rfl, rfl, rfl, rfl, hx, hb, hml, hown, hts, hK, hlk, hAq, hFz⟩ := C
  intro H locs ls hP hD hS hl
  exact lv_icmp_le hx hb hd ht (fun h => kt h H locs ls hP hD hS hl) (fun h => kf h H locs ls hP hD hS hl)
theorem j_ifb_eq {X : jX} {l : Launch} {G : jG} {nL : Nat} {Rm : Room} {cc : ByteArray} {own : String} {Ts : List Cond} {k n : Nat} {ws : va_W} {lv : List (Nat × Value)} {pc : Nat} {st : List Value} {b : Bool} {off : Int} {tgt : Nat} (C : jC X l G nL Rm cc own Ts) (hd : decode cc pc = .ok (.ifCond .eq off, 3)) (ht : (pc : Int) + off = (tgt : Int)) (kt : ¬ b = true → J X k n ws lv tgt st) (kf : b = true → J X k n ws lv (pc + 3) st) : J X k n ws lv pc (.int (b2i b) :: st) :=
  j_if_eq C hd ht (fun h => kt ((jb_0 _).mp h)) (fun h => kf (Classical.not_not.mp (fun q => h ((jb_0 _).mpr q))))
theorem j_ifb_ne {X : jX} {l : Launch} {G : jG} {nL : Nat} {Rm : Room} {cc : ByteArray} {own : String} {Ts : List Cond} {k n : Nat} {ws : va_W} {lv : List (Nat × Value)} {pc : Nat} {st : List Value} {b : Bool} {off : Int} {tgt : Nat} (C : jC X l G nL Rm cc own Ts) (hd : decode cc pc = .ok (.ifCond .ne off, 3)) (ht : (pc : Int) + off = (tgt : Int)) (kt : b = true → J X k n ws lv tgt st) (kf : ¬ b = true → J X k n ws lv (pc + 3) st) : J X k n ws lv pc (.int (b2i b) :: st) :=
  j_if_ne C hd ht (fun h => kt (Classical.not_not.mp (fun q => h ((jb_0 _).mpr q)))) (fun h => kf ((jb_0 _).mp h))
theorem j_iflc_eq {X : jX} {l : Launch} {G : jG} {nL : Nat} {Rm : Room} {cc : ByteArray} {own : String} {Ts : List Cond} {k n : Nat} {ws : va_W} {lv : List (Nat × Value)} {pc : Nat} {st : List Value} {x y : Int64} {off : Int} {tgt : Nat} (C : jC X l G nL Rm cc own Ts) (hd : decode cc pc = .ok (.ifCond .eq off, 3)) (ht : (pc : Int) + off = (tgt : Int)) (kt : x = y → J X k n ws lv tgt st) (kf : ¬ x = y → J X k n ws lv (pc + 3) st) : J X k n ws lv pc (.int (lg_cmp x y) :: st) :=
  j_if_eq C hd ht (fun h => kt ((jlc_0 _ _).mp h)) (fun h => kf (fun q => h ((jlc_0 _ _).mpr q)))
theorem j_iflc_ne {X : jX} {l : Launch} {G : jG} {nL : Nat} {Rm : Room} {cc : ByteArray} {own : String} {Ts : List Cond} {k n : Nat} {ws : va_W} {lv : List (Nat × Value)} {pc : Nat} {st : List Value} {x y : Int64} {off : Int} {tgt : Nat} (C : jC X l G nL Rm cc own Ts) (hd : decode cc pc = .ok (.ifCond .ne off, 3)) (ht : (pc : Int) + off = (tgt : Int)) (kt : ¬ x = y → J X k n ws lv tgt st) (kf : x = y → J X k n ws lv (pc + 3) st) : J X k n ws lv pc (.int (lg_cmp x y) :: st) :=
  j_if_ne C hd ht (fun h => kt (fun q => h ((jlc_0 _ _).mpr q))) (fun h => kf ((jlc_0 _ _).mp h))
theorem j_goto {X : jX} {l : Launch} {G : jG} {nL : Nat} {Rm : Room} {cc : ByteArray} {own : String} {Ts : List Cond} {k n : Nat} {ws : va_W} {lv : List (Nat × Value)} {pc : Nat} {st : List Value} {off : Int} {tgt : Nat} (C : jC X l G nL Rm cc own Ts) (hd : decode cc pc = .ok (.goto off, 3)) (ht : (pc : Int) + off = (tgt : Int)) (kk : J X k n ws lv tgt st) : J X k n ws lv pc st := by
  obtain ⟨⟨p, l', e, R, s, m, args, below, meth, c⟩, G', A, nL', Q⟩ := X
  obtain ⟨rfl, rfl, rfl, rfl, hx, hb, hml, hown, hts, hK, hlk, hAq, hFz⟩ := C
  intro H locs ls hP hD hS hl
  exact lv_goto hx hb hd ht (kk H locs ls hP hD hS hl)
theorem j_ifnonnull {X : jX} {l : Launch} {G : jG} {nL : Nat} {Rm : Room} {cc : ByteArray} {own : String} {Ts : List Cond} {k n : Nat} {ws : va_W} {lv : List (Nat × Value)} {pc : Nat} {st : List Value} {x : Nat} {off : Int} {tgt : Nat} (C : jC X l G nL Rm cc own Ts) (hd : decode cc pc = .ok (.ifnonnull off, 3)) (ht : (pc : Int) + off = (tgt : Int)) (kk : J X k n ws lv tgt st) : J X k n ws lv pc (.ref x :: st) := by
  obtain ⟨⟨p, l', e, R, s, m, args, below, meth, c⟩, G', A, nL', Q⟩ := X
  obtain ⟨rfl, rfl, rfl, rfl, hx, hb, hml, hown, hts, hK, hlk, hAq, hFz⟩ := C
  intro H locs ls hP hD hS hl
  exact lv_ifnonnull hx hb hd ht (kk H locs ls hP hD hS hl)
theorem j_ifnull {X : jX} {l : Launch} {G : jG} {nL : Nat} {Rm : Room} {cc : ByteArray} {own : String} {Ts : List Cond} {k n : Nat} {ws : va_W} {lv : List (Nat × Value)} {pc : Nat} {st : List Value} {x : Nat} {off : Int} (C : jC X l G nL Rm cc own Ts) (hd : decode cc pc = .ok (.ifnull off, 3)) (kk : J X k n ws lv (pc + 3) (st)) : J X k n ws lv pc (.ref x :: st) := by
  obtain ⟨⟨p, l', e, R, s, m, args, below, meth, c⟩, G', A, nL', Q⟩ := X
  obtain ⟨rfl, rfl, rfl, rfl, hx, hb, hml, hown, hts, hK, hlk, hAq, hFz⟩ := C
  intro H locs ls hP hD hS hl
  exact lv_ifnull hx hb hd (kk H locs ls hP hD hS hl)
theorem j_ifnullN {X : jX} {l : Launch} {G : jG} {nL : Nat} {Rm : Room} {cc : ByteArray} {own : String} {Ts : List Cond} {k n : Nat} {ws : va_W} {lv : List (Nat × Value)} {pc : Nat} {st : List Value} {off : Int} {tgt : Nat} (C : jC X l G nL Rm cc own Ts) (hd : decode cc pc = .ok (.ifnull off, 3)) (ht : (pc : Int) + off = (tgt : Int)) (kk : J X k n ws lv tgt st) : J X k n ws lv pc (.null :: st) := by
  obtain ⟨⟨p, l', e, R, s, m, args, below, meth, c⟩, G', A, nL', Q⟩ := X
  obtain ⟨rfl, rfl, rfl, rfl, hx, hb, hml, hown, hts, hK, hlk, hAq, hFz⟩ := C
  intro H locs ls hP hD hS hl
  exact lv_ifnullN hx hb hd ht (kk H locs ls hP hD hS hl)
theorem j_ifnonnullN {X : jX} {l : Launch} {G : jG} {nL : Nat} {Rm : Room} {cc : ByteArray} {own : String} {Ts : List Cond} {k n : Nat} {ws : va_W} {lv : List (Nat × Value)} {pc : Nat} {st : List Value} {off : Int} (C : jC X l G nL Rm cc own Ts) (hd : decode cc pc = .ok (.ifnonnull off, 3)) (kk : J X k n ws lv (pc + 3) (st)) : J X k n ws lv pc (.null :: st) := by
  obtain ⟨⟨p, l', e, R, s, m, args, below, meth, c⟩, G', A, nL', Q⟩ := X
  obtain ⟨rfl, rfl, rfl, rfl, hx, hb, hml, hown, hts, hK, hlk, hAq, hFz⟩ := C
  intro H locs ls hP hD hS hl
  exact lv_ifnonnullN hx hb hd (kk H locs ls hP hD hS hl)
theorem j_tsIn {X : jX} {l : Launch} {G : jG} {nL : Nat} {Rm : Room} {cc : ByteArray} {own : String} {Ts : List Cond} {k n : Nat} {ws : va_W} {lv : List (Nat × Value)} {pc : Nat} {st : List Value} {dflt lo hi : Int} {offs : Array Int} {len : Nat} {x : Int32} {off : Int} {tgt : Nat} (C : jC X l G nL Rm cc own Ts) (hd : decode cc pc = .ok (.tableswitch dflt lo hi offs, len)) (v : Int) (hv : x.toInt = v) (h1 : ¬ v < lo) (h2 : ¬ hi < v) (ho : offs[(v - lo).toNat]? = some off) (ht : (pc : Int) + off = (tgt : Int)) (kk : J X k n ws lv tgt st) : J X k n ws lv pc (.int x :: st) := by
  obtain ⟨⟨p, l', e, R, s, m, args, below, meth, c⟩, G', A, nL', Q⟩ := X
  obtain ⟨rfl, rfl, rfl, rfl, hx, hb, hml, hown, hts, hK, hlk, hAq, hFz⟩ := C
  intro H locs ls hP hD hS hl
  exact lv_tableIn hx hb hd (by rw [hv]; exact h1) (by rw [hv]; exact h2) (by rw [hv]; exact ho) ht (kk H locs ls hP hD hS hl)
theorem j_tsOut {X : jX} {l : Launch} {G : jG} {nL : Nat} {Rm : Room} {cc : ByteArray} {own : String} {Ts : List Cond} {k n : Nat} {ws : va_W} {lv : List (Nat × Value)} {pc : Nat} {st : List Value} {dflt lo hi : Int} {offs : Array Int} {len : Nat} {x : Int32} {tgt : Nat} (C : jC X l G nL Rm cc own Ts) (hd : decode cc pc = .ok (.tableswitch dflt lo hi offs, len)) (h : x.toInt < lo ∨ hi < x.toInt) (ht : (pc : Int) + dflt = (tgt : Int)) (kk : J X k n ws lv tgt st) : J X k n ws lv pc (.int x :: st) := by
  obtain ⟨⟨p, l', e, R, s, m, args, below, meth, c⟩, G', A, nL', Q⟩ := X
  obtain ⟨rfl, rfl, rfl, rfl, hx, hb, hml, hown, hts, hK, hlk, hAq, hFz⟩ := C
  intro H locs ls hP hD hS hl
  exact lv_tableOut hx hb hd h ht (kk H locs ls hP hD hS hl)
theorem j_get {X : jX} {l : Launch} {G : jG} {nL : Nat} {Rm : Room} {cc : ByteArray} {own : String} {Ts : List Cond} {k n : Nat} {ws : va_W} {lv : List (Nat × Value)} {pc : Nat} {st : List Value} {Cn : String} {T : u_T} {N ci : Nat} {ix a q0 kf : Nat} {fs : List Value} {v : Value} (C : jC X l G nL Rm cc own Ts) (hd : decode cc pc = .ok (.getfield ix, 3)) (hin : ∀ w ∈ u_ws Cn T N, w ∈ Ts) (hc : vwCl[ci]? = some (Cn, T, N)) (hk : kf < N) (hw : Cond.fieldLink own ix (T kf).1 (T kf).2.1 (T kf).2.2.1 ∈ Ts) (he : ws[q0]? = some (a, .inr (ci, fs))) (hv : fs[kf]? = some v) (kk : J X k n ws lv (pc + 3) (v :: st)) : J X k n ws lv pc (.ref a :: st) := by
  obtain ⟨⟨p, l', e, R, s, m, args, below, meth, c⟩, G', A, nL', Q⟩ := X
  obtain ⟨rfl, rfl, rfl, rfl, hx, hb, hml, hown, hts, hK, hlk, hAq, hFz⟩ := C
  intro H locs ls hP hD hS hl
  exact va_get hx hb hts hin hown hK hP q0 he hc kf hk (hts _ hw) (fun _ h => h) hv hd (kk H locs ls hP hD hS hl)
theorem j_put {X : jX} {l : Launch} {G : jG} {nL : Nat} {Rm : Room} {cc : ByteArray} {own : String} {Ts : List Cond} {k n : Nat} {ws : va_W} {lv : List (Nat × Value)} {pc : Nat} {st : List Value} {Cn : String} {T : u_T} {N ci : Nat} {ix a q0 kf : Nat} {fs : List Value} {v : Value} {ws2 : va_W} (C : jC X l G nL Rm cc own Ts) (hd : decode cc pc = .ok (.putfield ix, 3)) (hin : ∀ w ∈ u_ws Cn T N, w ∈ Ts) (ty0 : Nat → FieldType) (hty : ∀ k, k < N → parseFieldDescriptor (T k).2.2.1 = some (ty0 k)) (hnm : ∀ a, a < N → ∀ b, b < N → a ≠ b → (T a).2.1 ≠ (T b).2.1) (hc : vwCl[ci]? = some (Cn, T, N)) (hk : kf < N) (hw : Cond.fieldLink own ix (T kf).1 (T kf).2.1 (T kf).2.2.1 ∈ Ts) (he : ws[q0]? = some (a, .inr (ci, fs))) (hfin : (T kf).2.2.2 = false) (hn : narrow (ty0 kf) v = v) (hfit : fits (ty0 kf) v = true) (hl0 : kf < fs.length) (h2 : ws.set q0 (a, .inr (ci, fs.set kf v)) = ws2) (kk : J X k n ws2 lv (pc + 3) st) : J X k n ws lv pc (v :: .ref a :: st) := by
  obtain ⟨⟨p, l', e, R, s, m, args, below, meth, c⟩, G', A, nL', Q⟩ := X
  obtain ⟨rfl, rfl, rfl, rfl, hx, hb, hml, hown, hts, hK, hlk, hAq, hFz⟩ := C
  intro H locs ls hP hD hS hl
  subst h2
  exact va_put hx hb hts hin ty0 hty hnm hown hK hP hD hS q0 he hc kf hk (hts _ hw) (fun _ h => h) hfin (hty kf hk) hn hfit hl0 hd (fun H locs hP hD hS => kk H locs ls hP hD hS hl)
theorem j_iald {X : jX} {l : Launch} {G : jG} {nL : Nat} {Rm : Room} {cc : ByteArray} {own : String} {Ts : List Cond} {k n : Nat} {ws : va_W} {lv : List (Nat × Value)} {pc : Nat} {st : List Value} {a q0 N : Nat} {f : Nat → Int32} {i : Int32} (C : jC X l G nL Rm cc own Ts) (hd : decode cc pc = .ok (.iaload, 1)) (ha : ws[q0]? = some (a, .inl (G.2.2.1, N, .inl f))) (hi : inb i N = true) (kk : J X k n ws lv (pc + 1) (.int (f i.toNatClampNeg) :: st)) : J X k n ws lv pc (.int i :: .ref a :: st) := by
  obtain ⟨⟨p, l', e, R, s, m, args, below, meth, c⟩, G', A, nL', Q⟩ := X
  obtain ⟨rfl, rfl, rfl, rfl, hx, hb, hml, hown, hts, hK, hlk, hAq, hFz⟩ := C
  intro H locs ls hP hD hS hl
  exact va_iald hx hb hK hP q0 1 ha rfl (inb_in hi) hd (kk H locs ls hP hD hS hl)
theorem j_bald {X : jX} {l : Launch} {G : jG} {nL : Nat} {Rm : Room} {cc : ByteArray} {own : String} {Ts : List Cond} {k n : Nat} {ws : va_W} {lv : List (Nat × Value)} {pc : Nat} {st : List Value} {a q0 N : Nat} {f : Nat → Int32} {i : Int32} (C : jC X l G nL Rm cc own Ts) (hd : decode cc pc = .ok (.baload, 1)) (ha : ws[q0]? = some (a, .inl (G.2.1, N, .inl f))) (hi : inb i N = true) (kk : J X k n ws lv (pc + 1) (.int (f i.toNatClampNeg) :: st)) : J X k n ws lv pc (.int i :: .ref a :: st) := by
  obtain ⟨⟨p, l', e, R, s, m, args, below, meth, c⟩, G', A, nL', Q⟩ := X
  obtain ⟨rfl, rfl, rfl, rfl, hx, hb, hml, hown, hts, hK, hlk, hAq, hFz⟩ := C
  intro H locs ls hP hD hS hl
  exact va_bald hx hb hK hP q0 0 ha rfl (inb_in hi) hd (kk H locs ls hP hD hS hl)
theorem j_zald {X : jX} {l : Launch} {G : jG} {nL : Nat} {Rm : Room} {cc : ByteArray} {own : String} {Ts : List Cond} {k n : Nat} {ws : va_W} {lv : List (Nat × Value)} {pc : Nat} {st : List Value} {a q0 N : Nat} {f : Nat → Int32} {i : Int32} (C : jC X l G nL Rm cc own Ts) (hd : decode cc pc = .ok (.baload, 1)) (ha : ws[q0]? = some (a, .inl (G.2.2.2.2.1, N, .inl f))) (hi : inb i N = true) (kk : J X k n ws lv (pc + 1) (.int (f i.toNatClampNeg) :: st)) : J X k n ws lv pc (.int i :: .ref a :: st) := by
  obtain ⟨⟨p, l', e, R, s, m, args, below, meth, c⟩, G', A, nL', Q⟩ := X
  obtain ⟨rfl, rfl, rfl, rfl, hx, hb, hml, hown, hts, hK, hlk, hAq, hFz⟩ := C
  intro H locs ls hP hD hS hl
  exact va_zald hx hb hK hP q0 3 ha rfl (inb_in hi) hd (kk H locs ls hP hD hS hl)
theorem j_lald {X : jX} {l : Launch} {G : jG} {nL : Nat} {Rm : Room} {cc : ByteArray} {own : String} {Ts : List Cond} {k n : Nat} {ws : va_W} {lv : List (Nat × Value)} {pc : Nat} {st : List Value} {a q0 N : Nat} {f : Nat → Int64} {i : Int32} (C : jC X l G nL Rm cc own Ts) (hd : decode cc pc = .ok (.laload, 1)) (ha : ws[q0]? = some (a, .inl (G.2.2.2.1, N, .inr (.inl f)))) (hi : inb i N = true) (kk : J X k n ws lv (pc + 1) (.long (f i.toNatClampNeg) :: st)) : J X k n ws lv pc (.int i :: .ref a :: st) := by
  obtain ⟨⟨p, l', e, R, s, m, args, below, meth, c⟩, G', A, nL', Q⟩ := X
  obtain ⟨rfl, rfl, rfl, rfl, hx, hb, hml, hown, hts, hK, hlk, hAq, hFz⟩ := C
  intro H locs ls hP hD hS hl
  exact va_lald hx hb hK hP q0 2 ha rfl (inb_in hi) hd (kk H locs ls hP hD hS hl)
theorem j_iast {X : jX} {l : Launch} {G : jG} {nL : Nat} {Rm : Room} {cc : ByteArray} {own : String} {Ts : List Cond} {k n : Nat} {ws : va_W} {lv : List (Nat × Value)} {pc : Nat} {st : List Value} {a q0 N : Nat} {f : Nat → Int32} {i : Int32} {x : Int32} {ws2 : va_W} (C : jC X l G nL Rm cc own Ts) (hd : decode cc pc = .ok (.iastore, 1)) (ha : ws[q0]? = some (a, .inl (G.2.2.1, N, .inl f))) (hi : inb i N = true) (h2 : ws.set q0 (a, .inl (G.2.2.1, N, .inl (upd f i.toNatClampNeg x))) = ws2) (kk : J X k n ws2 lv (pc + 1) st) : J X k n ws lv pc (.int x :: .int i :: .ref a :: st) := by
  obtain ⟨⟨p, l', e, R, s, m, args, below, meth, c⟩, G', A, nL', Q⟩ := X
  obtain ⟨rfl, rfl, rfl, rfl, hx, hb, hml, hown, hts, hK, hlk, hAq, hFz⟩ := C
  intro H locs ls hP hD hS hl
  subst h2
  exact va_iast hx hb hK hP hD hS q0 1 ha rfl (inb_in hi) hd (fun H locs hP hD hS => kk H locs ls hP hD hS hl)
theorem j_bast {X : jX} {l : Launch} {G : jG} {nL : Nat} {Rm : Room} {cc : ByteArray} {own : String} {Ts : List Cond} {k n : Nat} {ws : va_W} {lv : List (Nat × Value)} {pc : Nat} {st : List Value} {a q0 N : Nat} {f : Nat → Int32} {i : Int32} {x : Int32} {ws2 : va_W} (C : jC X l G nL Rm cc own Ts) (hd : decode cc pc = .ok (.bastore, 1)) (ha : ws[q0]? = some (a, .inl (G.2.1, N, .inl f))) (hi : inb i N = true) (h2 : ws.set q0 (a, .inl (G.2.1, N, .inl (upd f i.toNatClampNeg (vp_nar .byte x)))) = ws2) (kk : J X k n ws2 lv (pc + 1) st) : J X k n ws lv pc (.int x :: .int i :: .ref a :: st) := by
  obtain ⟨⟨p, l', e, R, s, m, args, below, meth, c⟩, G', A, nL', Q⟩ := X
  obtain ⟨rfl, rfl, rfl, rfl, hx, hb, hml, hown, hts, hK, hlk, hAq, hFz⟩ := C
  intro H locs ls hP hD hS hl
  subst h2
  exact va_bast hx hb hK hP hD hS q0 0 ha rfl (inb_in hi) hd (fun H locs hP hD hS => kk H locs ls hP hD hS hl)
theorem j_zast {X : jX} {l : Launch} {G : jG} {nL : Nat} {Rm : Room} {cc : ByteArray} {own : String} {Ts : List Cond} {k n : Nat} {ws : va_W} {lv : List (Nat × Value)} {pc : Nat} {st : List Value} {a q0 N : Nat} {f : Nat → Int32} {i : Int32} {x : Int32} {ws2 : va_W} (C : jC X l G nL Rm cc own Ts) (hd : decode cc pc = .ok (.bastore, 1)) (ha : ws[q0]? = some (a, .inl (G.2.2.2.2.1, N, .inl f))) (hi : inb i N = true) (h2 : ws.set q0 (a, .inl (G.2.2.2.2.1, N, .inl (upd f i.toNatClampNeg (vp_nar .boolean x)))) = ws2) (kk : J X k n ws2 lv (pc + 1) st) : J X k n ws lv pc (.int x :: .int i :: .ref a :: st) := by
  obtain ⟨⟨p, l', e, R, s, m, args, below, meth, c⟩, G', A, nL', Q⟩ := X
  obtain ⟨rfl, rfl, rfl, rfl, hx, hb, hml, hown, hts, hK, hlk, hAq, hFz⟩ := C
  intro H locs ls hP hD hS hl
  subst h2
  exact va_zast hx hb hK hP hD hS q0 3 ha rfl (inb_in hi) hd (fun H locs hP hD hS => kk H locs ls hP hD hS hl)
theorem j_last {X : jX} {l : Launch} {G : jG} {nL : Nat} {Rm : Room} {cc : ByteArray} {own : String} {Ts : List Cond} {k n : Nat} {ws : va_W} {lv : List (Nat × Value)} {pc : Nat} {st : List Value} {a q0 N : Nat} {f : Nat → Int64} {i : Int32} {x : Int64} {ws2 : va_W} (C : jC X l G nL Rm cc own Ts) (hd : decode cc pc = .ok (.lastore, 1)) (ha : ws[q0]? = some (a, .inl (G.2.2.2.1, N, .inr (.inl f)))) (hi : inb i N = true) (h2 : ws.set q0 (a, .inl (G.2.2.2.1, N, .inr (.inl (vp_updL f i.toNatClampNeg x)))) = ws2) (kk : J X k n ws2 lv (pc + 1) st) : J X k n ws lv pc (.long x :: .int i :: .ref a :: st) := by
  obtain ⟨⟨p, l', e, R, s, m, args, below, meth, c⟩, G', A, nL', Q⟩ := X
  obtain ⟨rfl, rfl, rfl, rfl, hx, hb, hml, hown, hts, hK, hlk, hAq, hFz⟩ := C
  intro H locs ls hP hD hS hl
  subst h2
  exact va_last hx hb hK hP hD hS q0 2 ha rfl (inb_in hi) hd (fun H locs hP hD hS => kk H locs ls hP hD hS hl)
theorem j_alen {X : jX} {l : Launch} {G : jG} {nL : Nat} {Rm : Room} {cc : ByteArray} {own : String} {Ts : List Cond} {k n : Nat} {ws : va_W} {lv : List (Nat × Value)} {pc : Nat} {st : List Value} {a q0 t0 : Nat} {x : vp_A} {cA : ClassId} {ty : FieldType} {v : Int32} (C : jC X l G nL Rm cc own Ts) (hd : decode cc pc = .ok (.arraylength, 1)) (ha : ws[q0]? = some (a, .inl (cA, x))) (ht : (jTys G)[t0]? = some (cA, ty)) (hv : Int32.ofNat x.1 = v) (kk : J X k n ws lv (pc + 1) (.int v :: st)) : J X k n ws lv pc (.ref a :: st) := by
  obtain ⟨⟨p, l', e, R, s, m, args, below, meth, c⟩, G', A, nL', Q⟩ := X
  obtain ⟨rfl, rfl, rfl, rfl, hx, hb, hml, hown, hts, hK, hlk, hAq, hFz⟩ := C
  intro H locs ls hP hD hS hl
  exact va_alen hx hb hK hP q0 t0 ha ht hv hd (kk H locs ls hP hD hS hl)
theorem j_mmax {X : jX} {l : Launch} {G : jG} {nL : Nat} {Rm : Room} {cc : ByteArray} {own : String} {Ts : List Cond} {k n : Nat} {ws : va_W} {lv : List (Nat × Value)} {pc : Nat} {st : List Value} {ix : Nat} {x y : Int32} (C : jC X l G nL Rm cc own Ts) (hd : decode cc pc = .ok (.invokestatic ix, 3)) (w1 : Cond.methodLink own ix Lib.Math.max.name ∈ Ts) (w2 : Cond.static Lib.Math.max.name ∈ Ts) (w3 : Cond.initialized "java/lang/Math" ∈ Ts) (w4 : Cond.code Lib.Math.max.name Lib.Math.max.code 2 (some .int) ∈ Ts) (hf : 1 ≤ Rm.frames) (hlo : (st.map fun v => v.category).sum + 13 ≤ Rm.locals) (hc : k ≤ Rm.cells) (hs : n ≤ Rm.slots) (kk : J X k n ws lv (pc + 3) (.int (if x < y then y else x) :: st)) : J X k n ws lv pc (.int y :: .int x :: st) := by
  obtain ⟨⟨p, l', e, R, s, m, args, below, meth, c⟩, G', A, nL', Q⟩ := X
  obtain ⟨rfl, rfl, rfl, rfl, hx, hb, hml, hown, hts, hK, hlk, hAq, hFz⟩ := C
  intro H locs ls hP hD hS hl
  exact va_mmax hx hb (hml.trans hl.1.symm) hown (hts _ w1) (hts _ w2) (hts _ w3) (hts _ w4) hf hlo hc hs hd (kk H locs ls hP hD hS hl)
theorem j_mmin {X : jX} {l : Launch} {G : jG} {nL : Nat} {Rm : Room} {cc : ByteArray} {own : String} {Ts : List Cond} {k n : Nat} {ws : va_W} {lv : List (Nat × Value)} {pc : Nat} {st : List Value} {ix : Nat} {x y : Int32} (C : jC X l G nL Rm cc own Ts) (hd : decode cc pc = .ok (.invokestatic ix, 3)) (w1 : Cond.methodLink own ix Lib.Math.min.name ∈ Ts) (w2 : Cond.static Lib.Math.min.name ∈ Ts) (w3 : Cond.initialized "java/lang/Math" ∈ Ts) (w4 : Cond.code Lib.Math.min.name Lib.Math.min.code 2 (some .int) ∈ Ts) (hf : 1 ≤ Rm.frames) (hlo : (st.map fun v => v.category).sum + 13 ≤ Rm.locals) (hc : k ≤ Rm.cells) (hs : n ≤ Rm.slots) (kk : J X k n ws lv (pc + 3) (.int (if y < x then y else x) :: st)) : J X k n ws lv pc (.int y :: .int x :: st) := by
  obtain ⟨⟨p, l', e, R, s, m, args, below, meth, c⟩, G', A, nL', Q⟩ := X
  obtain ⟨rfl, rfl, rfl, rfl, hx, hb, hml, hown, hts, hK, hlk, hAq, hFz⟩ := C
  intro H locs ls hP hD hS hl
  exact va_mmin hx hb (hml.trans hl.1.symm) hown (hts _ w1) (hts _ w2) (hts _ w3) (hts _ w4) hf hlo hc hs hd (kk H locs ls hP hD hS hl)
theorem j_copyi {X : jX} {l : Launch} {G : jG} {nL : Nat} {Rm : Room} {cc : ByteArray} {own : String} {Ts : List Cond} {k n : Nat} {ws : va_W} {lv : List (Nat × Value)} {pc : Nat} {st : List Value} {ix a a0 q0 q1 N0 N1 : Nat} {f g : Nat → Int32} {sp dp z : Int32} {ws2 : va_W} (C : jC X l G nL Rm cc own Ts) (hd : decode cc pc = .ok (.invokestatic ix, 3)) (w1 : Cond.methodLink own ix arraycopyName ∈ Ts) (w2 : Cond.native arraycopyName ∈ Ts) (w3 : Cond.static arraycopyName ∈ Ts) (w4 : Cond.initialized "java/lang/System" ∈ Ts) (ha0 : ws[q0]? = some (a0, .inl (G.2.2.1, N0, .inl f))) (ha1 : ws[q1]? = some (a, .inl (G.2.2.1, N1, .inl g))) (h1 : ¬ sp < 0) (h2 : ¬ dp < 0) (h3 : ¬ z < 0) (h4 : sp.toNatClampNeg + z.toNatClampNeg ≤ N0) (h5 : dp.toNatClampNeg + z.toNatClampNeg ≤ N1) (hf : 1 ≤ Rm.frames) (hlo : (st.map fun v => v.category).sum + (nativeFrameWords "java/lang/System" "arraycopy" 5 + 11) ≤ Rm.locals) (hw2 : ws.set q1 (a, .inl (G.2.2.1, N1, .inl (va_cpy f g sp.toNatClampNeg dp.toNatClampNeg z.toNatClampNeg))) = ws2) (kk : J X k n ws2 lv (pc + 3) st) : J X k n ws lv pc (.int z :: .int dp :: .ref a :: .int sp :: .ref a0 :: st) := by
  obtain ⟨⟨p, l', e, R, s, m, args, below, meth, c⟩, G', A, nL', Q⟩ := X
  obtain ⟨rfl, rfl, rfl, rfl, hx, hb, hml, hown, hts, hK, hlk, hAq, hFz⟩ := C
  intro H locs ls hP hD hS hl
  subst hw2
  exact va_copyi hx hb (hml.trans hl.1.symm) hown (hts _ w1) (hts _ w2) (hts _ w3) (hts _ w4) hK hP hD hS q0 q1 1 1 ha0 ha1 rfl rfl rfl h1 h2 h3 h4 h5 (fun _ _ => rfl) hf hlo hd (fun H locs hP hD hS => kk H locs ls hP hD hS hl)
theorem j_copyl {X : jX} {l : Launch} {G : jG} {nL : Nat} {Rm : Room} {cc : ByteArray} {own : String} {Ts : List Cond} {k n : Nat} {ws : va_W} {lv : List (Nat × Value)} {pc : Nat} {st : List Value} {ix a a0 q0 q1 N0 N1 : Nat} {f g : Nat → Int64} {sp dp z : Int32} {ws2 : va_W} (C : jC X l G nL Rm cc own Ts) (hd : decode cc pc = .ok (.invokestatic ix, 3)) (w1 : Cond.methodLink own ix arraycopyName ∈ Ts) (w2 : Cond.native arraycopyName ∈ Ts) (w3 : Cond.static arraycopyName ∈ Ts) (w4 : Cond.initialized "java/lang/System" ∈ Ts) (ha0 : ws[q0]? = some (a0, .inl (G.2.2.2.1, N0, .inr (.inl f)))) (ha1 : ws[q1]? = some (a, .inl (G.2.2.2.1, N1, .inr (.inl g)))) (h1 : ¬ sp < 0) (h2 : ¬ dp < 0) (h3 : ¬ z < 0) (h4 : sp.toNatClampNeg + z.toNatClampNeg ≤ N0) (h5 : dp.toNatClampNeg + z.toNatClampNeg ≤ N1) (hf : 1 ≤ Rm.frames) (hlo : (st.map fun v => v.category).sum + (nativeFrameWords "java/lang/System" "arraycopy" 5 + 11) ≤ Rm.locals) (hw2 : ws.set q1 (a, .inl (G.2.2.2.1, N1, .inr (.inl (va_cpy f g sp.toNatClampNeg dp.toNatClampNeg z.toNatClampNeg)))) = ws2) (kk : J X k n ws2 lv (pc + 3) st) : J X k n ws lv pc (.int z :: .int dp :: .ref a :: .int sp :: .ref a0 :: st) := by
  obtain ⟨⟨p, l', e, R, s, m, args, below, meth, c⟩, G', A, nL', Q⟩ := X
  obtain ⟨rfl, rfl, rfl, rfl, hx, hb, hml, hown, hts, hK, hlk, hAq, hFz⟩ := C
  intro H locs ls hP hD hS hl
  subst hw2
  exact va_copyl hx hb (hml.trans hl.1.symm) hown (hts _ w1) (hts _ w2) (hts _ w3) (hts _ w4) hK hP hD hS q0 q1 2 2 ha0 ha1 rfl rfl rfl h1 h2 h3 h4 h5 (fun _ _ => rfl) hf hlo hd (fun H locs hP hD hS => kk H locs ls hP hD hS hl)
theorem j_iret {X : jX} {l : Launch} {G : jG} {nL : Nat} {Rm : Room} {cc : ByteArray} {own : String} {Ts : List Cond} {ws : va_W} {lv : List (Nat × Value)} {pc : Nat} {v : Int32} {r : Option Value} {w1 : va_W} (C : jC X l G nL Rm cc own Ts) (hE : jE X (some .int) r w1) (hd : decode cc pc = .ok (.ireturn, 1)) (hr : r = some (.int v)) (hw : w1 = ws) : J X 0 0 ws lv pc [.int v] := by
  obtain ⟨⟨p, l', e, R, s, m, args, below, meth, c⟩, G', A, nL', Q⟩ := X
  obtain ⟨rfl, rfl, rfl, rfl, hx, hb, hml, hown, hts, hK, hlk, hAq, hFz⟩ := C
  intro H locs ls hP hD hS hl
  obtain ⟨rfl, hret⟩ := hE
  subst hr hw
  exact W.iret hx hb hret (fun t ht hW => ⟨rfl, by rw [ht]; exact hP, hS.F ht⟩) hS.2.2 hd hlk
theorem j_zret {X : jX} {l : Launch} {G : jG} {nL : Nat} {Rm : Room} {cc : ByteArray} {own : String} {Ts : List Cond} {ws : va_W} {lv : List (Nat × Value)} {pc : Nat} {v : Int32} {r : Option Value} {w1 : va_W} (C : jC X l G nL Rm cc own Ts) (hE : jE X (some .boolean) r w1) (hd : decode cc pc = .ok (.ireturn, 1)) (hv : narrow .boolean (.int v) = .int v) (hr : r = some (.int v)) (hw : w1 = ws) : J X 0 0 ws lv pc [.int v] := by
  obtain ⟨⟨p, l', e, R, s, m, args, below, meth, c⟩, G', A, nL', Q⟩ := X
  obtain ⟨rfl, rfl, rfl, rfl, hx, hb, hml, hown, hts, hK, hlk, hAq, hFz⟩ := C
  intro H locs ls hP hD hS hl
  obtain ⟨rfl, hret⟩ := hE
  subst hr hw
  exact W.zret hx hb hret hv (fun t ht hW => ⟨rfl, by rw [ht]; exact hP, hS.F ht⟩) hS.2.2 hd hlk
theorem j_vret {X : jX} {l : Launch} {G : jG} {nL : Nat} {Rm : Room} {cc : ByteArray} {own : String} {Ts : List Cond} {ws : va_W} {lv : List (Nat × Value)} {pc : Nat} {r : Option Value} {w1 : va_W} (C : jC X l G nL Rm cc own Ts) (hE : jE X none r w1) (hd : decode cc pc = .ok (.return_, 1)) (hr : r = none) (hw : w1 = ws) : J X 0 0 ws lv pc [] := by
  obtain ⟨⟨p, l', e, R, s, m, args, below, meth, c⟩, G', A, nL', Q⟩ := X
  obtain ⟨rfl, rfl, rfl, rfl, hx, hb, hml, hown, hts, hK, hlk, hAq, hFz⟩ := C
  intro H locs ls hP hD hS hl
  obtain ⟨rfl, hret⟩ := hE
  subst hr hw
  exact W.vret hx hb hret (fun t ht hW => ⟨rfl, by rw [ht]; exact hP, hS.F ht⟩) hS.2.2 hd hlk
theorem j_aret {X : jX} {l : Launch} {G : jG} {nL : Nat} {Rm : Room} {cc : ByteArray} {own : String} {Ts : List Cond} {ws : va_W} {lv : List (Nat × Value)} {pc : Nat} {v : Value} {rt : FieldType} {r : Option Value} {w1 : va_W} (C : jC X l G nL Rm cc own Ts) (hE : jE X (some rt) r w1) (hd : decode cc pc = .ok (.areturn, 1)) (hrt : (∃ n, rt = .object n) ∨ ∃ t, rt = .array t) (hv : v = .null ∨ ∃ a, v = .ref a) (hr : r = some v) (hw : w1 = ws) : J X 0 0 ws lv pc [v] := by
  obtain ⟨⟨p, l', e, R, s, m, args, below, meth, c⟩, G', A, nL', Q⟩ := X
  obtain ⟨rfl, rfl, rfl, rfl, hx, hb, hml, hown, hts, hK, hlk, hAq, hFz⟩ := C
  intro H locs ls hP hD hS hl
  obtain ⟨rfl, hret⟩ := hE
  subst hr hw
  exact W.aret hx hb hret hrt hv (fun t ht hW => ⟨rfl, by rw [ht]; exact hP, hS.F ht⟩) hS.2.2 hd hlk
def jY (y : MethodName) (wsy : List Cond) (rm : Room) (bytes : ByteArray) (maxL : Nat) (ret : Option FieldType) (na : Nat) : Prop :=
  (∃ wsy', wsy = .code y bytes maxL ret :: wsy') ∧ (rm.cells = 0 ∧ rm.slots = 0) ∧ y.cls ≠ "java/lang/invoke/MethodHandle" ∧ y.cls ≠ "java/lang/invoke/VarHandle" ∧ (parseMethodDescriptor y.desc).map (fun d => d.parameters.length) = some na
theorem va_nd_nodup {is : List Nat} (h : va_nd is = true) : is.Nodup := by
  rw [List.nodup_iff_pairwise_ne, List.pairwise_iff_getElem]
  intro i j hi hj hij e
  exact absurd (va_nd_inj is h i j is[i] (List.getElem?_eq_getElem hi) (by rw [e]; exact List.getElem?_eq_getElem hj)) (by omega)
theorem j_callV {X : jX} {l : Launch} {G : jG} {nL : Nat} {Rm : Room} {cc : ByteArray} {own : String} {Ts : List Cond} {k n : Nat} {ws : va_W} {lv : List (Nat × Value)} {pc : Nat} {st : List Value} {w0 w1 ws2 : va_W} {As rest st2 : List Value} {r : Option Value} {y : MethodName} {wsy : List Cond} {rm : Room} {bytes : ByteArray} {maxL ix na : Nat} {ret : Option FieldType} {Cn : String} {T0 : u_T} {N q0 ci b : Nat} {fs : List Value} (C : jC X l G nL Rm cc own Ts) (hM : jM l G y wsy rm (.ref b :: As) w0 r w1) (hY : jY y wsy rm bytes maxL ret na) (hd : decode cc pc = .ok (.invokevirtual ix, 3)) (hG : GoodIn Ts (wsV own ix Cn y wsy)) (hcn : y.cls = Cn) (hna : As.length = na) (hR : rm.frames + 1 ≤ Rm.frames ∧ 8 + (maxL + 11) + rm.locals ≤ Rm.locals) (hkn : k ≤ Rm.cells ∧ n ≤ Rm.slots) (isC : List Nat) (hC : isC.map (fun i => ws[i]?) = w0.map some) (hnd : va_nd isC = true) (hp2 : jpatch ws isC w1 = ws2) (hcl : vwCl[ci]? = some (Cn, T0, N)) (he : ws[q0]? = some (b, .inr (ci, fs))) (hst : st = As.reverse ++ .ref b :: rest) (hcat : (rest.map fun v => v.category).sum ≤ 8) (hst2 : r.toList ++ rest = st2) (kk : J X k n ws2 lv (pc + 3) st2) : J X k n ws lv pc st := by
  obtain ⟨⟨p, l', e, R, s, m, args, below, meth, c⟩, G', A, nL', Q⟩ := X
  obtain ⟨rfl, rfl, rfl, rfl, hx, hb, hml, hown, hts, hK, hlk, hAq, hFz⟩ := C
  intro H locs ls hP hD hS hl
  subst hst
  obtain ⟨⟨wsy', hw⟩, ⟨hz1, hz2⟩, hy1, hy2, hy3⟩ := hY
  intro T hT X0
  obtain ⟨v, st₀, t, T', L, h0, X', hL, e1, e2, ⟨hv, hP1, hz, hkp⟩, stp⟩ := va_runV (As := As) (rest := rest) (g := F0 m pc ls (As.reverse ++ .ref b :: rest)) ⟨hx, hb, hml, hown, hts⟩ (hM.2 H.size) (cwV na hts hG hw hz1 hz2 ⟨hcn, hy1, hy2, hy3⟩ hR) ⟨jPc_blind, va_recv hK hP hcl he, fun U hU hW => ⟨rfl, by rw [hU], by rw [hU]; exact hP.sub' isC hC, va_K.moved hW.alike hK, (hD.sub isC hnd hC).weaken (fun _ _ _ _ => trivial), by rw [hU]; exact hFz.at hS (va_free (wc := w0) hD hS hAq isC hC) hW⟩⟩ rfl hna hl.1 rfl (lv_room hcat) hd hkn T hT X0
  cases hv
  rw [h0] at hz hkp
  have hF := va_free (wc := w0) hD hS hAq isC hC
  obtain ⟨hP2, hD2⟩ := jpatch_ok isC hC hM.1 (va_nd_nodup hnd) hP hD (fun q h1 h2 => hkp q h1 h2) hP1
  rw [hp2] at hP2 hD2
  subst hst2
  obtain ⟨t2, a1, b1⟩ := kk T'.heap (locs ++ L) ls (by rw [e1]; exact hP2) hD2 ⟨Nat.le_trans hS.1 (by rw [e1]; exact hz), fun q h1 h2 => by rw [e1, hkp q (Nat.lt_of_lt_of_le h1 hS.1) (fun z => h2 (hF q z))]; exact hS.2.1 q h1 h2, fun q hq => by
      rcases List.mem_append.mp hq with h | h
      · exact hS.2.2 q h
      · exact hF _ (hL q h)⟩ hl T' rfl X'
  exact ⟨t2, stp t2 a1, b1⟩
theorem j_callS {X : jX} {l : Launch} {G : jG} {nL : Nat} {Rm : Room} {cc : ByteArray} {own : String} {Ts : List Cond} {k n : Nat} {ws : va_W} {lv : List (Nat × Value)} {pc : Nat} {st : List Value} {w0 w1 ws2 : va_W} {As rest st2 : List Value} {r : Option Value} {y : MethodName} {wsy : List Cond} {rm : Room} {bytes : ByteArray} {maxL ix na : Nat} {ret : Option FieldType} (C : jC X l G nL Rm cc own Ts) (hM : jM l G y wsy rm As w0 r w1) (hY : jY y wsy rm bytes maxL ret na) (hd : decode cc pc = .ok (.invokestatic ix, 3)) (hG : GoodIn Ts (va_wsS own ix y wsy)) (hna : As.length = na) (hR : rm.frames + 1 ≤ Rm.frames ∧ 8 + (maxL + 11) + rm.locals ≤ Rm.locals) (hkn : k ≤ Rm.cells ∧ n ≤ Rm.slots) (isC : List Nat) (hC : isC.map (fun i => ws[i]?) = w0.map some) (hnd : va_nd isC = true) (hp2 : jpatch ws isC w1 = ws2) (hst : st = As.reverse ++ rest) (hcat : (rest.map fun v => v.category).sum ≤ 8) (hst2 : r.toList ++ rest = st2) (kk : J X k n ws2 lv (pc + 3) st2) : J X k n ws lv pc st := by
  obtain ⟨⟨p, l', e, R, s, m, args, below, meth, c⟩, G', A, nL', Q⟩ := X
  obtain ⟨rfl, rfl, rfl, rfl, hx, hb, hml, hown, hts, hK, hlk, hAq, hFz⟩ := C
  intro H locs ls hP hD hS hl
  subst hst
  obtain ⟨⟨wsy', hw⟩, ⟨hz1, hz2⟩, hy1, hy2, hy3⟩ := hY
  intro T hT X0
  obtain ⟨v, st₀, t, T', L, h0, X', hL, e1, e2, ⟨hv, hP1, hz, hkp⟩, stp⟩ := va_runS (As := As) (rest := rest) (g := F0 m pc ls (As.reverse ++ rest)) ⟨hx, hb, hml, hown, hts⟩ (hM.2 H.size) (va_cwS na hts hG hw hz1 hz2 ⟨hy1, hy2, hy3⟩ hR) ⟨jPc_blind, fun U hU hW => ⟨rfl, by rw [hU], by rw [hU]; exact hP.sub' isC hC, va_K.moved hW.alike hK, (hD.sub isC hnd hC).weaken (fun _ _ _ _ => trivial), by rw [hU]; exact hFz.at hS (va_free (wc := w0) hD hS hAq isC hC) hW⟩⟩ rfl hna hl.1 rfl (lv_room hcat) hd hkn T hT X0
  cases hv
  rw [h0] at hz hkp
  have hF := va_free (wc := w0) hD hS hAq isC hC
  obtain ⟨hP2, hD2⟩ := jpatch_ok isC hC hM.1 (va_nd_nodup hnd) hP hD (fun q h1 h2 => hkp q h1 h2) hP1
  rw [hp2] at hP2 hD2
  subst hst2
  obtain ⟨t2, a1, b1⟩ := kk T'.heap (locs ++ L) ls (by rw [e1]; exact hP2) hD2 ⟨Nat.le_trans hS.1 (by rw [e1]; exact hz), fun q h1 h2 => by rw [e1, hkp q (Nat.lt_of_lt_of_le h1 hS.1) (fun z => h2 (hF q z))]; exact hS.2.1 q h1 h2, fun q hq => by
      rcases List.mem_append.mp hq with h | h
      · exact hS.2.2 q h
      · exact hF _ (hL q h)⟩ hl T' rfl X'
  exact ⟨t2, stp t2 a1, b1⟩
theorem jpatch_len : ∀ (is : List Nat) (w ws : va_W), (jpatch ws is w).length = ws.length
  | [], w, ws => by simp [jpatch]
  | i :: is, [], ws => by simp [jpatch]
  | i :: is, q :: w, ws => by unfold jpatch; rw [jpatch_len is w]; simp
theorem jbeq_ne {i k : Nat} (h : i ≠ k) : Nat.beq i k = false := by
  cases hb : Nat.beq i k with
  | false => rfl
  | true => exact absurd (Nat.eq_of_beq_eq_true hb) h
/-- the world behind a call in one pass: at each place what the callee put there, or what stood there -/
def jlk (k : Nat) : List (Nat × (Nat × va_E)) → (Nat × va_E) → Nat × va_E
  | [], c => c
  | p :: l, c => bif Nat.beq p.1 k then p.2 else jlk k l c
def jpt (l : List (Nat × (Nat × va_E))) : Nat → va_W → va_W
  | _, [] => []
  | k, c :: ws => jlk k l c :: jpt l (k + 1) ws
theorem jlk_out {k : Nat} {c : Nat × va_E} : ∀ (is : List Nat) (w : va_W), k ∉ is → jlk k (is.zip w) c = c
  | [], w, _ => by simp [jlk]
  | i :: is, [], _ => by simp [jlk]
  | i :: is, q :: w, h => by
    have h1 : i ≠ k := fun e => h (by simp [e])
    have h2 : k ∉ is := fun e => h (by simp [e])
    show (bif Nat.beq i k then q else jlk k (is.zip w) c) = c
    rw [jbeq_ne h1, cond_false, jlk_out is w h2]
theorem jlk_in {k : Nat} {c : Nat × va_E} : ∀ (is : List Nat) (w : va_W) (j : Nat) (q : Nat × va_E), is.Nodup → is[j]? = some k → w[j]? = some q → jlk k (is.zip w) c = q
  | [], w, j, q, _, h, _ => by simp at h
  | i :: is, [], j, q, _, _, h => by simp at h
  | i :: is, p :: w, 0, q, _, h, h2 => by
    simp only [List.getElem?_cons_zero, Option.some.injEq] at h h2
    subst h h2
    show (bif Nat.beq i i then p else _) = p
    rw [show Nat.beq i i = true from Nat.beq_refl i, cond_true]
  | i :: is, p :: w, j + 1, q, hn, h, h2 => by
    have hn2 := List.nodup_cons.mp hn
    simp only [List.getElem?_cons_succ] at h h2
    have h1 : i ≠ k := fun e => hn2.1 (e ▸ List.mem_of_getElem? h)
    show (bif Nat.beq i k then p else jlk k (is.zip w) c) = q
    rw [jbeq_ne h1, cond_false]
    exact jlk_in is w j q hn2.2 h h2
theorem jpt_at (l : List (Nat × (Nat × va_E))) : ∀ (ws : va_W) (k0 k : Nat), (jpt l k0 ws)[k]? = ws[k]?.map (jlk (k0 + k) l)
  | [], k0, k => by simp [jpt]
  | c :: ws, k0, 0 => by simp [jpt]
  | c :: ws, k0, k + 1 => by
    show (jlk k0 l c :: jpt l (k0 + 1) ws)[k + 1]? = (c :: ws)[k + 1]?.map _
    rw [List.getElem?_cons_succ, List.getElem?_cons_succ, jpt_at l ws (k0 + 1) k]
    congr 2
    omega
theorem jpt_eq {ws w1 ws2 : va_W} {is : List Nat} (hnd : va_nd is = true) (hl : is.length = w1.length) (h : jpt (is.zip w1) 0 ws = ws2) : jpatch ws is w1 = ws2 := by
  rw [← h]
  apply List.ext_getElem?
  intro k
  rw [jpt_at, Nat.zero_add]
  by_cases hin : k ∈ is
  · cases hk : ws[k]? with
    | none =>
      have h1 : ws.length ≤ k := by simpa using hk
      rw [List.getElem?_eq_none (by rw [jpatch_len]; exact h1)]; rfl
    | some c =>
      have hkl : k < ws.length := (List.getElem?_eq_some_iff.mp hk).1
      have hl2 : k < (jpatch ws is w1).length := by rw [jpatch_len]; exact hkl
      obtain ⟨j, g1, g2⟩ := jpatch_in is w1 ws k ((jpatch ws is w1)[k]) (va_nd_nodup hnd) hl hin (List.getElem?_eq_getElem hl2) hkl
      rw [List.getElem?_eq_getElem hl2]
      show some _ = some (jlk k (is.zip w1) c)
      rw [jlk_in is w1 j _ (va_nd_nodup hnd) g1 g2]
  · rw [jpatch_out is w1 ws k hin]
    cases hk : ws[k]? with
    | none => rfl
    | some c =>
      show some c = some (jlk k (is.zip w1) c)
      rw [jlk_out is w1 hin]
theorem jM_of {l : Launch} {G : jG} {y : MethodName} {Ts Ts' : List Cond} {rm : Room} {av : List Value} {w0 : va_W} {r : Option Value} {w1 : va_W} {cc : ByteArray} {maxL : Nat} {ret : Option FieldType} {own : String} {lv0 : List (Nat × Value)} (hy : plainName y.cls = true) (hw : Ts = Cond.code y cc maxL ret :: Ts') (hown : y.cls = own) (hadr : w1.map (·.1) = w0.map (·.1)) (hal : (lg_sl av).length ≤ maxL) (hlv : lv_args 0 av = lv0)
    (body : ∀ X : jX, jC X l G maxL rm cc own Ts → jE X ret r w1 → J X 0 0 w0 lv0 0 []) : jM l G y Ts rm av w0 r w1 := by
  refine ⟨hadr, fun sz => Met.ofW (cc := cc) (maxL := maxL) (ret := ret) hy hw ?_⟩
  intro p e s m args below meth c s₁ B hml hv
  obtain ⟨rfl, hsz, hP, hK, hD0, hFz⟩ := hv
  have hts := atoms_spec (ws := Ts) B.pre
  have hown' : s.vm.findClass own = some m.cls := by rw [← hown]; exact findClass_of_methodNamed B.named
  subst hsz
  have hl := lv_entry av (n := maxL) hal
  rw [lg_entry_eq]
  rw [hlv] at hl
  exact body ((p, l, e, (headSpec Ts rm).room, s, m, av.toArray, below, meth, c), G, va_A w0 s.heap.size, maxL, MQ below (jQ G r w1 (va_A w0 s.heap.size)) av.toArray s 0 0 (va_A w0 s.heap.size))
    ⟨rfl, rfl, rfl, rfl, B.exec, B.bytes, hml, hown', hts, hK, B.notSynchronized, fun q h => Or.inr h, hFz⟩ ⟨rfl, B.returns⟩ s.heap [] _ hP hD0.self va_S.rf hl
