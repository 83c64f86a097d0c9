/-! ===== pure rows: the model's GAIN ===== -/
theorem m_bestRow {le bo wt : Nat → Nat} {isL c : Nat → Bool} {cap : Nat → Nat} {m nv : Nat} {φ : Nat → Int} {tt : Int} (hg : gwf le bo wt isL m nv) (hnv : nv ≤ 10) (hm : m ≤ 30) (hI : fInv le bo wt isL c cap m nv φ tt) (hφ : ∀ v, φ v ≤ 198) {sd wo inn : Nat → Int32} (hM : fM le bo wt m sd wo) (hin : ∀ i, i < m → inn i = b2i (c i)) {cp us : Nat → Int32} (hcp : ∀ v, v < nv → cap v ≤ 10 ∧ cp v = nI (cap v)) (hus : ∀ v, v < nv → us v = nI (cnv le bo c m v)) (be fa st : Nat → Int32) : ∃ r be' fa' st' R V, dn_X12_bestRow (nI m) be cp fa inn sd st us wo = some (r, be', fa', st') ∧ rI (arcM le bo wt c m) (srtM le bo wt c cap m) R V ∧ okM le bo wt c m R ∧ (∀ v x, srtM le bo wt c cap m v x → ∃ b, R v = some b ∧ x ≤ b) ∧ stM m R V be' fa' st' ∧ ((r = -1 ∧ ∀ i x, i < m → endM bo le c cap m i → R i = some x → False) ∨ ∃ l x, l < m ∧ r = nI l ∧ endM bo le c cap m l ∧ R l = some x ∧ ∀ i y, i < m → endM bo le c cap m i → R i = some y → wOf y ≤ wOf x) := by
  have hcl : ∀ v, cnv le bo c m v ≤ m := fun v => ct_le _ m
  have hR0 : ∃ R0 : Nat → Option Int, ∀ k, R0 k = if k < m ∧ c k = false ∧ cnv le bo c m (le k) < cap (le k) then some (64 * (wt k : Int)) else none := ⟨_, fun _ => rfl⟩
  obtain ⟨R0, hR0⟩ := hR0
  obtain ⟨q, h1, h2⟩ := pz_rel0 (fun k (q : (Nat → Int32) × (Nat → Int32) × (Nat → Int32)) => gn_X12_bestRow_0 (nI m) cp inn sd us wo (nI k) q.1 q.2.1 q.2.2) m (fun k q => ∀ j, j < k → q.1 j = -1 ∧ q.2.1 j = eF (R0 j) ∧ q.2.2 j = eS (R0 j)) (be, fa, st) (fun j hj => by omega) (by
    rintro k ⟨be, fa, st⟩ hk hP
    have gk := hg k hk
    have hMk := hM k hk
    have hcb := hcp _ gk.1
    have hub := hus _ gk.1
    have i1 : inb (nI k) 30 = true := inb_nI (by omega) (by omega)
    have hroom := m_isRoom (us := us) (cp := cp) (v := le k) (by omega) hub hcb.2 (by have := hcl (le k); omega) (by omega)
    have hq : gn_X12_bestRow_0 (nI m) cp inn sd us wo (nI k) be fa st = gn_X12_bestRow_0 (nI m) cp inn sd us wo (nI (k + 1)) (upd be k (-1)) (upd fa k (eF (R0 k))) (upd st k (eS (R0 k))) := by
      rw [gq_X12_bestRow_0, if_neg (nI_ge hk (by omega)), i1, if_pos rfl, if_pos rfl, nI_clamp (by omega), hin k hk, pz_2, inb_nI (show 2 * k < 60 by omega) (by omega), if_pos rfl, nI_clamp (show 2 * k < 2 ^ 31 by omega), hMk.1, hroom, Option.bind_some, gq_X12_bestRow_2, i1, if_pos rfl, nI_clamp (show k < 2 ^ 31 by omega), hMk.2.2, nI_1, hR0 k]
      cases ck : c k with
      | true =>
        rw [if_neg (show ¬ b2i true = 0 by decide), if_neg (show ¬ (k < m ∧ true = false ∧ cnv le bo c m (le k) < cap (le k)) from fun x => by cases x.2.1)]
        rfl
      | false =>
        rw [if_pos (show b2i false = 0 by decide)]
        by_cases c1 : cnv le bo c m (le k) < cap (le k)
        · have e0 : wOf (64 * (wt k : Int)) = (wt k : Int) := by unfold wOf; omega
          have e1 : -(nI (wt k)) = eF (some (64 * (wt k : Int))) := by
            show _ = zI (-(wOf _))
            rw [e0, zI_n (by omega), zI_neg]
          have e2 : (0 : Int32) = eS (some (64 * (wt k : Int))) := by
            show _ = zI (64 * wOf _ - _)
            rw [e0, show (64 * (wt k : Int) - 64 * (wt k : Int)) = 0 from by omega]
            rfl
          rw [decide_eq_true c1, if_pos rfl, if_pos rfl, if_pos (show k < m ∧ false = false ∧ cnv le bo c m (le k) < cap (le k) from ⟨hk, rfl, c1⟩), e1, ← e2]
          rfl
        · rw [decide_eq_false c1, if_neg (by decide), if_neg (show ¬ (k < m ∧ false = false ∧ cnv le bo c m (le k) < cap (le k)) from fun x => c1 x.2.2)]
          rfl
    refine ⟨(upd be k (-1), upd fa k (eF (R0 k)), upd st k (eS (R0 k))), fun j hj => ?_, hq⟩
    show upd be k (-1) j = -1 ∧ upd fa k (eF (R0 k)) j = eF (R0 j) ∧ upd st k (eS (R0 k)) j = eS (R0 j)
    by_cases e : j = k
    · subst e; rw [pk_us, pk_us, pk_us]; exact ⟨rfl, rfl, rfl⟩
    · rw [pk_un e, pk_un e, pk_un e]; exact hP j (by omega))
  have hr0 : ∀ v x, R0 v = some x → srtM le bo wt c cap m v x := by
    intro v x hx
    rw [hR0 v] at hx
    by_cases c1 : v < m ∧ c v = false ∧ cnv le bo c m (le v) < cap (le v)
    · rw [if_pos c1] at hx
      cases hx
      exact ⟨c1.1, c1.2.1, c1.2.2, rfl⟩
    · rw [if_neg c1] at hx; cases hx
  have hS0 : ∀ v x, srtM le bo wt c cap m v x → R0 v = some x := by
    intro v x hx
    rw [hR0 v, if_pos ⟨hx.1, hx.2.1, hx.2.2.1⟩, hx.2.2.2]
  have hns : ∀ v, R0 v = none ∨ ∃ x, srtM le bo wt c cap m v x ∧ R0 v = some x := by
    intro v
    cases hx : R0 v with
    | none => exact Or.inl rfl
    | some x => exact Or.inr ⟨x, hr0 v x hx, rfl⟩
  obtain ⟨R, V, be', fa', st', z1, z2, z3, z4, z5⟩ := m_passes hg hnv hm hI hφ hM hin cp us 31 0 1 R0 (fun _ => none) q.1 q.2.1 q.2.2 rfl ⟨fun v x hx => ⟨0, fun _ => v, fun _ => x, ⟨hr0 v x hx, rfl, fun p hp => by omega, fun p q _ _ => by omega, fun p _ => ⟨x, hx, Int.le_refl x⟩⟩, rfl⟩, fun _ => 0, 1, fun v => ⟨Nat.one_pos, fun _ => hns v, fun i hi => by cases hi⟩⟩ (fun k' hk' v x hw => by
      have : k' = 0 := by omega
      subst this
      exact ⟨x, hS0 v x hw, Int.le_refl x⟩) (fun h => by cases h) (Nat.le_refl 1) (fun j hj => h1 j hj)
  have hbd := rM_bd hg hm hI hφ z2
  obtain ⟨r, y1, y2⟩ := m_last hg hnv hm hM hin hcp hus z5 (fun v x h => ⟨(hbd v x h).2.1, (hbd v x h).2.2.1, (hbd v x h).2.2.2.2⟩)
  refine ⟨r, be', fa', st', R, V, ?_, z2, z3, fun v x hs => z4 v x (hS0 v x hs), z5, y2⟩
  have h3 : dn_X12_bestRow (nI m) be cp fa inn sd st us wo = gn_X12_bestRow_0 (nI m) cp inn sd us wo (nI m) q.1 q.2.1 q.2.2 := h2
  rw [h3, gq_X12_bestRow_0, if_pos (nI_le (Nat.le_refl _) (by omega))]
  exact z1.trans y1
theorem nar_1 : vp_nar .boolean 1 = b2i true := by decide
theorem nar_0 : vp_nar .boolean 0 = b2i false := by decide
theorem m_zero10 (g : Nat → (Nat → Int32) → Option (Int32 × (Nat → Int32) × (Nat → Int32) × (Nat → Int32) × (Nat → Int32) × (Nat → Int32))) (us : Nat → Int32) (h : ∀ k us, k < 10 → g k us = g (k + 1) (upd us k 0)) : ∃ us', (∀ v, v < 10 → us' v = nI 0) ∧ g 0 us = g 10 us' := by
  obtain ⟨q, h1, h2⟩ := pz_rel0 g 10 (fun k q => ∀ v, v < k → q v = nI 0) us (fun v hv => by omega) (by
    intro k us hk hP
    refine ⟨upd us k 0, fun v hv => ?_, h k us hk⟩
    by_cases e : v = k
    · subst e; rw [pk_us]; rfl
    · rw [pk_un e]; exact hP v (by omega))
  exact ⟨q, h1, h2⟩
theorem m_turns {c : Nat → Bool} {m k : Nat} (hm : m ≤ 30) {f : Nat → Nat} {V : Nat → Option Nat} (hv0 : V (f 0) = none) (hv : ∀ p, p < k → V (f (p + 1)) = some (f p)) (hf : ∀ p, p ≤ k → f p < m) (hd : ∀ p q, p < q → q ≤ k → f p ≠ f q) {be inn : Nat → Int32} (hbe : ∀ j, j < m → be j = eV (V j)) (hin : ∀ i, i < m → inn i = b2i (c i)) (cp sd wo : Nat → Int32) (v1 : Int32) (us fa st : Nat → Int32) : ∃ inn', (∀ i, i < m → inn' i = b2i (tgl c f 0 (k + 1) i)) ∧ gn_X12_mostOf_3 (nI m) cp sd wo v1 (nI (f k)) us inn be fa st = gn_X12_mostOf_4 (nI m) cp sd wo v1 0 us inn' be fa st := by
  have hvv : ∃ vv : Nat → Int32, ∀ j, vv j = if j ≤ k then nI (f (k - j)) else -1 := ⟨_, fun _ => rfl⟩
  obtain ⟨vv, hvv⟩ := hvv
  obtain ⟨q, h1, h2⟩ := pz_rel0 (fun j (q : Nat → Int32) => gn_X12_mostOf_3 (nI m) cp sd wo v1 (vv j) us q be fa st) (k + 1) (fun j q => ∀ i, i < m → q i = b2i (tgl c f (k + 1 - j) (k + 1) i)) inn (fun i hi => by rw [Nat.sub_zero, tgl_0]; exact hin i hi) (by
    intro j q hj hP
    have e1 : k + 1 - (j + 1) = k - j := by omega
    have e2 : k + 1 - j = k - j + 1 := by omega
    have hfj := hf (k - j) (by omega)
    have hbj := hbe _ hfj
    have hP2 := hP _ hfj
    have i1 : inb (nI (f (k - j))) 30 = true := inb_nI (by omega) (by omega)
    have hnext : eV (V (f (k - j))) = vv (j + 1) := by
      rw [hvv (j + 1)]
      by_cases c1 : j + 1 ≤ k
      · rw [if_pos c1, show k - j = k - (j + 1) + 1 from by omega, hv _ (by omega)]
        rfl
      · rw [if_neg c1, show k - j = 0 from by omega, hv0]; rfl
    have hq : gn_X12_mostOf_3 (nI m) cp sd wo v1 (vv j) us q be fa st = gn_X12_mostOf_3 (nI m) cp sd wo v1 (vv (j + 1)) us (upd q (f (k - j)) (b2i (!(tgl c f (k + 1 - j) (k + 1) (f (k - j)))))) be fa st := by
      rw [hvv j, if_pos (by omega), gq_X12_mostOf_3, if_neg (show ¬ nI (f (k - j)) < 0 from by rw [pz_lt0 (by omega)]; exact id), i1, if_pos rfl, if_pos rfl, nI_clamp (by omega), hP2, hbj, hnext, nar_1, nar_0]
      cases tgl c f (k + 1 - j) (k + 1) (f (k - j)) <;> rfl
    refine ⟨_, fun i hi => ?_, hq⟩
    rw [e1, tgl_lo (fun p q a b => hd p q a (by omega)) (show k - j < k + 1 by omega) i, e2]
    by_cases e : i = f (k - j)
    · subst e; rw [pk_us, if_pos rfl]
    · rw [pk_un e, if_neg e, ← e2]; exact hP i hi)
  refine ⟨q, fun i hi => ?_, ?_⟩
  · have := h1 i hi
    rw [Nat.sub_self] at this; exact this
  · have h3 : gn_X12_mostOf_3 (nI m) cp sd wo v1 (vv 0) us inn be fa st = gn_X12_mostOf_3 (nI m) cp sd wo v1 (vv (k + 1)) us q be fa st := h2
    rw [hvv 0, if_pos (Nat.zero_le k), Nat.sub_zero, hvv (k + 1), if_neg (by omega)] at h3
    rw [h3, gq_X12_mostOf_3, if_pos (show (-1 : Int32) < 0 by decide)]
theorem m_counts {le bo wt : Nat → Nat} {isL c : Nat → Bool} {m nv : Nat} (hg : gwf le bo wt isL m nv) (hnv : nv ≤ 10) (hm : m ≤ 30) {sd wo inn : Nat → Int32} (hM : fM le bo wt m sd wo) (hin : ∀ i, i < m → inn i = b2i (c i)) (cp : Nat → Int32) (v1 : Int32) (us be fa st : Nat → Int32) (hus : ∀ v, v < 10 → us v = nI 0) : ∃ us', (∀ v, v < 10 → us' v = nI (cnv le bo c m v)) ∧ gn_X12_mostOf_5 (nI m) cp sd wo v1 0 us inn be fa st = gn_X12_mostOf_2 (nI m) cp sd wo v1 us' inn be fa st := by
  obtain ⟨q, h1, h2⟩ := pz_rel0 (fun k (q : Nat → Int32) => gn_X12_mostOf_5 (nI m) cp sd wo v1 (nI k) q inn be fa st) m (fun k q => ∀ v, v < 10 → q v = nI (cnv le bo c k v)) us hus (by
    intro k q hk hP
    have gk := hg k hk
    have gn := hg.ne k hk
    have hMk := hM k hk
    have hq : gn_X12_mostOf_5 (nI m) cp sd wo v1 (nI k) q inn be fa st = if c k = true then gn_X12_mostOf_5 (nI m) cp sd wo v1 (nI (k + 1)) (upd (upd q (le k) (q (le k) + 1)) (bo k) ((upd q (le k) (q (le k) + 1)) (bo k) + 1)) inn be fa st else gn_X12_mostOf_5 (nI m) cp sd wo v1 (nI (k + 1)) q inn be fa st := by
      rw [gq_X12_mostOf_5, if_neg (nI_ge hk (by omega)), inb_nI (show k < 30 by omega) (by omega), if_pos rfl, nI_clamp (by omega), hin k hk, pz_2, nI_1, nI_1, inb_nI (show 2 * k < 60 by omega) (by omega), inb_nI (show 2 * k + 1 < 60 by omega) (by omega), nI_clamp (show 2 * k < 2 ^ 31 by omega), nI_clamp (show 2 * k + 1 < 2 ^ 31 by omega), hMk.1, hMk.2.1, inb_nI (show le k < 10 by omega) (by omega), inb_nI (show bo k < 10 by omega) (by omega), nI_clamp (show le k < 2 ^ 31 by omega), nI_clamp (show bo k < 2 ^ 31 by omega)]
      cases c k <;> rfl
    by_cases c1 : c k = true
    · rw [if_pos c1] at hq
      refine ⟨_, fun v hv => ?_, hq⟩
      rw [cnv_s]
      have hv4 := hP v hv
      by_cases e1 : v = bo k
      · subst e1
        rw [pk_us, pk_un (fun x => gn.2.2 x.symm), hv4, if_pos ⟨c1, Or.inr rfl⟩, nI_1]
      · rw [pk_un e1]
        by_cases e2 : v = le k
        · subst e2
          rw [pk_us, hv4, if_pos ⟨c1, Or.inl rfl⟩, nI_1]
        · rw [pk_un e2, hv4, if_neg (fun x => x.2.elim e2 e1), Nat.add_zero]
    · rw [if_neg c1] at hq
      refine ⟨q, fun v hv => ?_, hq⟩
      rw [cnv_s, if_neg (fun x => c1 x.1), Nat.add_zero]
      exact hP v hv)
  refine ⟨q, h1, ?_⟩
  have h3 : gn_X12_mostOf_5 (nI m) cp sd wo v1 0 us inn be fa st = gn_X12_mostOf_5 (nI m) cp sd wo v1 (nI m) q inn be fa st := h2
  rw [h3, gq_X12_mostOf_5, if_pos (nI_le (Nat.le_refl _) (by omega))]
theorem m_most {le bo wt : Nat → Nat} {isL : Nat → Bool} {cap : Nat → Nat} {m nv : Nat} (hg : gwf le bo wt isL m nv) (hnv : nv ≤ 10) (hm : m ≤ 30) {sd wo cp : Nat → Int32} (hM : fM le bo wt m sd wo) (hcp : ∀ v, v < nv → cap v ≤ 10 ∧ cp v = nI (cap v)) : ∀ (j : Nat) (c : Nat → Bool) (φ : Nat → Int) (tt : Int) (us inn be fa st : Nat → Int32), ct c m + j = m → fInv le bo wt isL c cap m nv φ tt → (∀ v, φ v ≤ 198) → 0 ≤ tt → (∀ i, i < m → inn i = b2i (c i)) → (∀ v, v < nv → us v = nI (cnv le bo c m v)) → ∃ o, gn_X12_mostOf_2 (nI m) cp sd wo (nI (wsm wt c m)) us inn be fa st = some o ∧ o.1 = nI (optN le bo wt m cap) := by
  intro j
  induction j with
  | zero =>
    intro c φ tt us inn be fa st hj hI hφ ht hin hus
    obtain ⟨r, be', fa', st', R, V, z1, z2, z3, z4, z5, z6⟩ := m_bestRow hg hnv hm hI hφ hM hin hcp hus be fa st
    rw [gq_X12_mostOf_2, z1, Option.bind_some]
    rcases z6 with ⟨y1, y2⟩ | ⟨l, x, l1, l2, l3, l4, l5⟩
    · rw [if_pos (show r < 0 from by rw [y1]; decide)]
      refine ⟨_, rfl, ?_⟩
      show nI (wsm wt c m) = _
      rw [mdl_stop hg hm hI ht hφ z2 z3 z4 (fun i y h1 h2 h3 h4 => absurd (y2 i y h1 ⟨h2, h4⟩ h3) id)]
    · have := ct_full m (by omega) l l1
      rw [l3.1] at this; cases this
  | succ j ih =>
    intro c φ tt us inn be fa st hj hI hφ ht hin hus
    obtain ⟨r, be', fa', st', R, V, z1, z2, z3, z4, z5, z6⟩ := m_bestRow hg hnv hm hI hφ hM hin hcp hus be fa st
    have hbd := rM_bd hg hm hI hφ z2
    rw [gq_X12_mostOf_2, z1, Option.bind_some]
    rcases z6 with ⟨y1, y2⟩ | ⟨l, x, l1, l2, l3, l4, l5⟩
    · rw [if_pos (show r < 0 from by rw [y1]; decide)]
      refine ⟨_, rfl, ?_⟩
      show nI (wsm wt c m) = _
      rw [mdl_stop hg hm hI ht hφ z2 z3 z4 (fun i y h1 h2 h3 h4 => absurd (y2 i y h1 ⟨h2, h4⟩ h3) id)]
    · have hx := hbd l x l4
      have hwx : -6300 ≤ wOf x ∧ wOf x ≤ 200 := by unfold wOf; omega
      have hfl : fa' l = zI (-(wOf x)) := by rw [(z5 l l1).2.1, l4]; rfl
      rw [if_neg (show ¬ r < 0 from by rw [l2, pz_lt0 (by omega)]; exact id)]
      show ∃ o, (if inb r 30 = true then (if fa' r.toNatClampNeg < 0 then (if inb r 30 = true then gn_X12_mostOf_3 (nI m) cp sd wo (nI (wsm wt c m) - fa' r.toNatClampNeg) r us inn be' fa' st' else none) else some (nI (wsm wt c m), us, inn, be', fa', st')) else none) = some o ∧ _
      rw [l2, inb_nI (show l < 30 by omega) (by omega), if_pos rfl, if_pos rfl, nI_clamp (by omega), hfl, show (0 : Int32) = zI 0 from rfl]
      simp only [zI_lt (show -2147483648 ≤ -(wOf x) by omega) (show -(wOf x) < 2147483648 by omega) (show (-2147483648 : Int) ≤ 0 by omega) (show (0 : Int) < 2147483648 by omega)]
      by_cases c1 : -(wOf x) < 0
      · rw [if_pos c1]
        obtain ⟨k, f, k1, k2, k3, k4, k5, k6, φ', n1, n2, n3, n4⟩ := mdl_step hg hm hI hφ z2 z3 z4 l1 l3.1 l4 l3.2 (fun i y h1 h2 h3 h4 => l5 i y h1 ⟨h2, h4⟩ h3) (by omega)
        obtain ⟨inn', t1, t2⟩ := m_turns hm k3 k4 k5 k6 (be := be') (fun j hj => (z5 j hj).1) hin cp sd wo (nI (wsm wt c m) - zI (-(wOf x))) us fa' st'
        rw [k2] at t2
        have hw1 := wsm_le hg c
        have hw2 := wsm_le hg (tgl c f 0 (k + 1))
        have hsum : nI (wsm wt c m) - zI (-(wOf x)) = nI (wsm wt (tgl c f 0 (k + 1)) m) := by
          rw [Int32.sub_eq_add_neg, zI_neg, zI_n (n := wsm wt c m) (by omega), zI_add, zI_n (n := wsm wt (tgl c f 0 (k + 1)) m) (by omega)]
          congr 1; omega
        rw [hsum] at t2
        have hcc : ∃ c' : Nat → Bool, c' = tgl c f 0 (k + 1) := ⟨_, rfl⟩
        obtain ⟨c', hc'⟩ := hcc
        rw [← hc'] at t1 t2 n1 n3 n4
        obtain ⟨us1, u1, u2⟩ := m_zero10 (fun k us => gn_X12_mostOf_4 (nI m) cp sd wo (nI (wsm wt c' m)) (nI k) us inn' be' fa' st') us (fun k us hk => by
          show gn_X12_mostOf_4 _ _ _ _ _ _ _ _ _ _ _ = gn_X12_mostOf_4 _ _ _ _ _ _ _ _ _ _ _
          rw [gq_X12_mostOf_4, show (10 : Int32) = nI 10 from rfl, if_neg (nI_ge hk (by omega)), inb_nI hk (by omega), if_pos rfl, nI_clamp (by omega), nI_1])
        have u3 : gn_X12_mostOf_4 (nI m) cp sd wo (nI (wsm wt c' m)) 0 us inn' be' fa' st' = gn_X12_mostOf_5 (nI m) cp sd wo (nI (wsm wt c' m)) 0 us1 inn' be' fa' st' := by
          have : gn_X12_mostOf_4 (nI m) cp sd wo (nI (wsm wt c' m)) 0 us inn' be' fa' st' = gn_X12_mostOf_4 (nI m) cp sd wo (nI (wsm wt c' m)) (nI 10) us1 inn' be' fa' st' := u2
          rw [this, gq_X12_mostOf_4, if_pos (show (10 : Int32) ≤ nI 10 by decide)]
        obtain ⟨us2, v1, v2⟩ := m_counts hg hnv hm hM t1 cp (nI (wsm wt c' m)) us1 be' fa' st' u1
        rw [hsum, ← hc', t2, u3, v2]
        exact ih c' φ' (wOf x) us2 inn' be' fa' st' (by omega) n1 n2 (by omega) t1 (fun v hv => v1 v (by omega))
      · rw [if_neg c1]
        refine ⟨_, rfl, ?_⟩
        show nI (wsm wt c m) = _
        rw [mdl_stop hg hm hI ht hφ z2 z3 z4 (fun i y h1 h2 h3 h4 => by have := l5 i y h1 ⟨h2, h4⟩ h3; omega)]
theorem m_mostOf {le bo wt : Nat → Nat} {isL : Nat → Bool} {cap : Nat → Nat} {m nv : Nat} (hg : gwf le bo wt isL m nv) (hnv : nv ≤ 10) (hm : m ≤ 30) {sd wo cp : Nat → Int32} (hM : fM le bo wt m sd wo) (hcp : ∀ v, v < nv → cap v ≤ 10 ∧ cp v = nI (cap v)) (us inn be fa st : Nat → Int32) : ∃ o, dn_X12_mostOf (nI m) be cp fa inn sd st us wo = some o ∧ o.1 = nI (optN le bo wt m cap) := by
  obtain ⟨us1, u1, u2⟩ := m_zero10 (fun k us => gn_X12_mostOf_0 (nI m) cp sd wo (nI k) us inn be fa st) us (fun k us hk => by
    show gn_X12_mostOf_0 _ _ _ _ _ _ _ _ _ _ = gn_X12_mostOf_0 _ _ _ _ _ _ _ _ _ _
    rw [gq_X12_mostOf_0, show (10 : Int32) = nI 10 from rfl, if_neg (nI_ge hk (by omega)), inb_nI hk (by omega), if_pos rfl, nI_clamp (by omega), nI_1])
  have u3 : dn_X12_mostOf (nI m) be cp fa inn sd st us wo = gn_X12_mostOf_1 (nI m) cp sd wo 0 us1 inn be fa st := by
    have : dn_X12_mostOf (nI m) be cp fa inn sd st us wo = gn_X12_mostOf_0 (nI m) cp sd wo (nI 10) us1 inn be fa st := u2
    rw [this, gq_X12_mostOf_0, if_pos (show (10 : Int32) ≤ nI 10 by decide)]
  obtain ⟨inn1, h1, h2⟩ := pz_rel0 (fun k (q : Nat → Int32) => gn_X12_mostOf_1 (nI m) cp sd wo (nI k) us1 q be fa st) m (fun k q => ∀ i, i < k → q i = b2i false) inn (fun i hi => by omega) (by
    intro k q hk hP
    refine ⟨upd q k (b2i false), fun i hi => ?_, ?_⟩
    · by_cases e : i = k
      · subst e; rw [pk_us]
      · rw [pk_un e]; exact hP i (by omega)
    · show gn_X12_mostOf_1 _ _ _ _ _ _ _ _ _ _ = gn_X12_mostOf_1 _ _ _ _ _ _ _ _ _ _
      rw [gq_X12_mostOf_1, if_neg (nI_ge hk (by omega)), inb_nI (by omega) (by omega), if_pos rfl, nI_clamp (by omega), nI_1, nar_0])
  have h3 : gn_X12_mostOf_1 (nI m) cp sd wo 0 us1 inn be fa st = gn_X12_mostOf_2 (nI m) cp sd wo 0 us1 inn1 be fa st := by
    have : gn_X12_mostOf_1 (nI m) cp sd wo 0 us1 inn be fa st = gn_X12_mostOf_1 (nI m) cp sd wo (nI m) us1 inn1 be fa st := h2
    rw [this, gq_X12_mostOf_1, if_pos (nI_le (Nat.le_refl _) (by omega))]
  have hz : ∀ v, cnv le bo (fun _ => false) m v = 0 := fun v => by
    unfold cnv
    have : ∀ m, ct (fun i => false && (le i == v || bo i == v)) m = 0 := by
      intro m
      induction m with
      | zero => rfl
      | succ m ih => rw [ct_s, ih]; simp
    exact this m
  have hc0 : ct (fun _ => false) m = 0 := by
    have : ∀ m, ct (fun _ => false) m = 0 := by
      intro m
      induction m with
      | zero => rfl
      | succ m ih => rw [ct_s, ih]; simp
    exact this m
  have hw0 : wsm wt (fun _ => false) m = 0 := sm_zero m (fun k _ => by simp)
  obtain ⟨o, o1, o2⟩ := m_most hg hnv hm hM hcp m (fun _ => false) (fun v => if isL v = true then 0 else 198) 198 us1 inn1 be fa st (by rw [hc0]; omega) (fInv_0 hg) (fun v => by
    show (if isL v = true then (0 : Int) else 198) ≤ 198
    split <;> omega) (by omega) h1 (fun v hv => by rw [hz v]; exact u1 v (by omega))
  rw [hw0] at o1
  exact ⟨o, by rw [u3, h3]; exact o1, o2⟩
