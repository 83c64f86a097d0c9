/-! ===== pure: a state kept, TOWN and DEALS done, on both sides ===== -/
def stO (T : tT) (D : tD) (O : Nat → Nat) (pe de la to : Int32) (pn : Nat → Int64) (bo di li : Nat → Int32) (dn : Nat → Int64) (le br ye lg bg ei oy : Nat → Int32) (rc fg : Int32) (gs rs fw : Nat → Int32) (bz : Int32) (dl wy fd : Nat → Int32) (s : Nat → Int32) (nm : Nat → Int64) : Prop :=
  twf T ∧ dwf T D ∧ rC T pe de la to bo di li le br ye lg bg ei ∧ ordP T O ∧ (∀ p, p < T 1 0 → oy p = nI (O p)) ∧ gOK T gs ∧ rsO T rc rs ∧ lfMO T O fg fw ∧ (fg = -1 ∨ T 1 0 ≤ 12) ∧ bz = nI D.1 ∧ cB T D dl wy fd ∧ nmsR (T 0 0) 0 pn nm ∧ nmsR (T 1 0) 10 dn nm ∧ mT T s ∧ mB D s
theorem stO_same {T : tT} {D : tD} {O : Nat → Nat} {pe de la to : Int32} {pn : Nat → Int64} {bo di li : Nat → Int32} {dn : Nat → Int64} {le br ye lg bg ei oy : Nat → Int32} {rc fg : Int32} {gs rs fw : Nat → Int32} {bz : Int32} {dl wy fd : Nat → Int32} {s : Nat → Int32} {nm : Nat → Int64} (h : stO T D O pe de la to pn bo di li dn le br ye lg bg ei oy rc fg gs rs fw bz dl wy fd s nm) {pn' : Nat → Int64} {bo' di' li' : Nat → Int32} {dn' : Nat → Int64} {le' br' ye' lg' bg' ei' oy' : Nat → Int32} {gs' rs' fw' : Nat → Int32} {dl' wy' fd' : Nat → Int32} {s' : Nat → Int32} {nm' : Nat → Int64} (h1 : ∀ k, k < 10 → pn' k = pn k ∧ bo' k = bo k ∧ di' k = di k ∧ li' k = li k) (h2 : ∀ k, k < 30 → dn' k = dn k ∧ le' k = le k ∧ br' k = br k ∧ ye' k = ye k ∧ lg' k = lg k ∧ bg' k = bg k ∧ ei' k = ei k ∧ oy' k = oy k ∧ dl' k = dl k ∧ wy' k = wy k ∧ fd' k = fd k) (h3 : ∀ k, k < 1024 → gs' k = gs k ∧ rs' k = rs k) (h4 : ∀ k, k < 12 → fw' k = fw k) (h5 : ∀ k, k < 284 → s' k = s k) (h6 : ∀ k, k < 40 → nm' k = nm k) : stO T D O pe de la to pn' bo' di' li' dn' le' br' ye' lg' bg' ei' oy' rc fg gs' rs' fw' bz dl' wy' fd' s' nm' := by
  obtain ⟨a1, a2, ⟨b1, b2, b3, b4, b5, b6⟩, a4, a5, a6, a7, a8, a9, a10, a11, a12, a13, a14, a15⟩ := h
  have hn := a1.p
  have hd := a1.d
  have hD := a2.le
  have hp10 := pz_10 a1.p
  refine ⟨a1, a2, ⟨b1, b2, b3, b4, fun p hp => ?_, fun d hdd => ?_⟩, a4, fun p hp => ?_, fun P hP => ?_, ?_, ?_, a9, a10, fun i hi => ?_, fun k hk => ?_, fun k hk => ?_, a14.same a1 (fun k hk _ => h5 k (by omega)), ?_, fun i hi => ?_⟩
  · obtain ⟨_, c2, c3, c4⟩ := h1 p (by omega)
    rw [c2, c3, c4]; exact b5 p hp
  · obtain ⟨_, c2, c3, c4, c5, c6, c7, _⟩ := h2 d (by omega)
    rw [c2, c3, c4, c5, c6, c7]; exact b6 d hdd
  · obtain ⟨_, _, _, _, _, _, _, c8, _⟩ := h2 p (by omega)
    rw [c8]; exact a5 p hp
  · rw [(h3 P (by omega)).1]; exact a6 P hP
  · rcases a7 with x | ⟨x, y⟩
    · exact Or.inl x
    · refine Or.inr ⟨x, fun P hP hr => ?_⟩
      have : rcT T P ≤ P := ct_le _ P
      rw [(h3 _ (by omega)).2]; exact y P hP hr
  · rcases a9 with x | x
    · exact Or.inl x
    · rcases a8 with y | ⟨y, z⟩
      · exact Or.inl y
      · exact Or.inr ⟨y, fun d hdd => by rw [h4 d (by omega)]; exact z d hdd⟩
  · obtain ⟨_, _, _, _, _, _, _, _, c9, c10, c11⟩ := h2 i (by omega)
    rw [c9, c10, c11]; exact a11 i hi
  · rw [(h1 k (by omega)).1, h6 (0 + k) (by omega)]; exact a12 k hk
  · rw [(h2 k (by omega)).1, h6 (10 + k) (by omega)]; exact a13 k hk
  · rw [h5 3 (by omega)]; exact a15.1
  · rw [h5 (224 + i) (by omega), h5 (254 + i) (by omega)]; exact a15.2 i hi
/-- an image -/
def imO (kp ik : Int32) (pe de la to : Int32) (pn : Nat → Int64) (bo di li : Nat → Int32) (dn : Nat → Int64) (le br ye lg bg ei oy : Nat → Int32) (rc fg : Int32) (gs rs fw : Nat → Int32) (bz : Int32) (dl wy fd : Nat → Int32) (s : Nat → Int32) (nm : Nat → Int64) : Prop :=
  kp = ik ∧ (kp = 0 ∨ kp = 1) ∧ (kp = 1 → ∃ T D O, stO T D O pe de la to pn bo di li dn le br ye lg bg ei oy rc fg gs rs fw bz dl wy fd s nm)
theorem cpyI {f g : Nat → Int32} {n k : Nat} (h : k < n) : va_cpy f g 0 0 n k = f k := by
  rw [pk_cpy_in (by omega) (by omega)]
  congr 1
  omega
theorem cpyL {f g : Nat → Int64} {n k : Nat} (h : k < n) : va_cpy f g 0 0 n k = f k := by
  rw [pk_cpy_in (by omega) (by omega)]
  congr 1
  omega
/-! the model's images -/
theorem m_image {j : Nat} (hj : j < 2) (ik kt : Nat → Int32) (nm nk : Nat → Int64) (s : Nat → Int32) : ∃ kt' nk', dn_X12_image ik kt nm nk s (nI j) = some (true, 0, kt', upd ik j 1, nk') ∧ (∀ k, k < 284 → kt' (284 * j + k) = s k) ∧ (∀ k, k < 40 → nk' (40 * j + k) = nm k) ∧ (∀ k, k < 284 * j ∨ 284 * j + 284 ≤ k → kt' k = kt k) ∧ ∀ k, k < 40 * j ∨ 40 * j + 40 ≤ k → nk' k = nk k := by
  obtain ⟨kt', ⟨h1, h2⟩, h3⟩ := pz_rel0 (fun k (x : Nat → Int32) => gn_X12_image_0 nm s (nI j) (nI k) 0 x ik nk) 284 (fun k x => (∀ i, i < k → x (284 * j + i) = s i) ∧ ∀ i, i < 284 * j ∨ 284 * j + 284 ≤ i → x i = kt i) kt ⟨fun i hi => by omega, fun i _ => rfl⟩ (fun k x hk hx => by
    show ∃ a', _ ∧ gn_X12_image_0 _ _ _ _ _ _ _ _ = gn_X12_image_0 _ _ _ _ _ _ _ _
    refine ⟨upd x (284 * j + k) (s k), ⟨fun i hi => ?_, fun i hi => ?_⟩, ?_⟩
    · by_cases e : i = k
      · rw [e, pk_us]
      · rw [pk_un (by omega)]; exact hx.1 i (by omega)
    · rw [pk_un (by omega)]; exact hx.2 i hi
    · rw [gq_X12_image_0, if_neg (show ¬ (284 : Int32) ≤ nI k from nI_ge (b := 284) hk (by omega)), inb_nI hk (by omega), if_pos rfl, show (284 : Int32) = nI 284 from rfl, pk_mul, nI_add, inb_nI (show 284 * j + k < 568 by omega) (by omega), if_pos rfl, nI_clamp (by omega), nI_clamp (by omega), nI_1])
  obtain ⟨nk', ⟨g1, g2⟩, g3⟩ := pz_rel0 (fun k (x : Nat → Int64) => gn_X12_image_1 nm s (nI j) (nI k) 0 kt' ik x) 40 (fun k x => (∀ i, i < k → x (40 * j + i) = nm i) ∧ ∀ i, i < 40 * j ∨ 40 * j + 40 ≤ i → x i = nk i) nk ⟨fun i hi => by omega, fun i _ => rfl⟩ (fun k x hk hx => by
    show ∃ a', _ ∧ gn_X12_image_1 _ _ _ _ _ _ _ _ = gn_X12_image_1 _ _ _ _ _ _ _ _
    refine ⟨vp_updL x (40 * j + k) (nm k), ⟨fun i hi => ?_, fun i hi => ?_⟩, ?_⟩
    · by_cases e : i = k
      · rw [e, pk_uLs]
      · rw [pk_uLn (by omega)]; exact hx.1 i (by omega)
    · rw [pk_uLn (by omega)]; exact hx.2 i hi
    · rw [gq_X12_image_1, if_neg (show ¬ (40 : Int32) ≤ nI k from nI_ge (b := 40) hk (by omega)), inb_nI (show k < 80 by omega) (by omega), if_pos rfl, show (40 : Int32) = nI 40 from rfl, pk_mul, nI_add, inb_nI (show 40 * j + k < 80 by omega) (by omega), if_pos rfl, nI_clamp (by omega), nI_clamp (by omega), nI_1])
  have h3' : gn_X12_image_0 nm s (nI j) 0 0 kt ik nk = gn_X12_image_0 nm s (nI j) (nI 284) 0 kt' ik nk := h3
  have g3' : gn_X12_image_1 nm s (nI j) 0 0 kt' ik nk = gn_X12_image_1 nm s (nI j) (nI 40) 0 kt' ik nk' := g3
  refine ⟨kt', nk', ?_, h1, g1, h2, g2⟩
  unfold dn_X12_image
  rw [show dn_X12_isIn (nI j) 0 1 = some true from m_in01_t (by omega), Option.bind_some, if_pos rfl, h3', gq_X12_image_0, if_pos (show (284 : Int32) ≤ nI 284 by decide), g3', gq_X12_image_1, if_pos (show (40 : Int32) ≤ nI 40 by decide), inb_nI hj (by omega), if_pos rfl, nI_clamp (by omega)]
  rfl
theorem m_restore {j : Nat} (hj : j < 2) {ik : Nat → Int32} (hik : ik j ≠ 0) (sl : Int32) (kt : Nat → Int32) (nm nk : Nat → Int64) (s : Nat → Int32) : ∃ s' nm', dn_X12_restore sl ik kt nm nk s (nI j) = some (true, 0, s', 1, nm') ∧ (∀ k, k < 284 → s' k = kt (284 * j + k)) ∧ ∀ k, k < 40 → nm' k = nk (40 * j + k) := by
  obtain ⟨s', h1, h3⟩ := pz_rel0 (fun k (x : Nat → Int32) => gn_X12_restore_0 kt nk (nI j) (nI k) 0 x sl nm) 284 (fun k x => ∀ i, i < k → x i = kt (284 * j + i)) s (fun i hi => by omega) (fun k x hk hx => by
    show ∃ a', _ ∧ gn_X12_restore_0 _ _ _ _ _ _ _ _ = gn_X12_restore_0 _ _ _ _ _ _ _ _
    refine ⟨upd x k (kt (284 * j + k)), fun i hi => ?_, ?_⟩
    · by_cases e : i = k
      · rw [e, pk_us]
      · rw [pk_un (by omega)]; exact hx i (by omega)
    · rw [gq_X12_restore_0, if_neg (show ¬ (284 : Int32) ≤ nI k from nI_ge (b := 284) hk (by omega)), show (284 : Int32) = nI 284 from rfl, pk_mul, nI_add, inb_nI (show 284 * j + k < 568 by omega) (by omega), if_pos rfl, inb_nI hk (by omega), if_pos rfl, nI_clamp (by omega), nI_clamp (by omega), nI_1])
  obtain ⟨nm', g1, g3⟩ := pz_rel0 (fun k (x : Nat → Int64) => gn_X12_restore_1 kt nk (nI j) (nI k) 0 s' sl x) 40 (fun k x => ∀ i, i < k → x i = nk (40 * j + i)) nm (fun i hi => by omega) (fun k x hk hx => by
    show ∃ a', _ ∧ gn_X12_restore_1 _ _ _ _ _ _ _ _ = gn_X12_restore_1 _ _ _ _ _ _ _ _
    refine ⟨vp_updL x k (nk (40 * j + k)), fun i hi => ?_, ?_⟩
    · by_cases e : i = k
      · rw [e, pk_uLs]
      · rw [pk_uLn (by omega)]; exact hx i (by omega)
    · rw [gq_X12_restore_1, if_neg (show ¬ (40 : Int32) ≤ nI k from nI_ge (b := 40) hk (by omega)), show (40 : Int32) = nI 40 from rfl, pk_mul, nI_add, inb_nI (show 40 * j + k < 80 by omega) (by omega), if_pos rfl, inb_nI (show k < 80 by omega) (by omega), if_pos rfl, nI_clamp (by omega), nI_clamp (by omega), nI_1])
  have h3' : gn_X12_restore_0 kt nk (nI j) 0 0 s sl nm = gn_X12_restore_0 kt nk (nI j) (nI 284) 0 s' sl nm := h3
  have g3' : gn_X12_restore_1 kt nk (nI j) 0 0 s' sl nm = gn_X12_restore_1 kt nk (nI j) (nI 40) 0 s' sl nm' := g3
  refine ⟨s', nm', ?_, h1, g1⟩
  unfold dn_X12_restore
  rw [show dn_X12_isIn (nI j) 0 1 = some true from m_in01_t (by omega), Option.bind_some, if_pos rfl, inb_nI hj (by omega), if_pos rfl, nI_clamp (by omega), if_neg hik, h3', gq_X12_restore_0, if_pos (show (284 : Int32) ≤ nI 284 by decide), g3', gq_X12_restore_1, if_pos (show (40 : Int32) ≤ nI 40 by decide)]
