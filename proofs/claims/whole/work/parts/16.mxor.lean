/-! Nodes.xor, Nodes.choose: three makings, at most one growth of the rows; contracts by program (wip/whole/spec_m3.py) -/
theorem eO_ge {o : Option Nat} {n : Nat} (hn : n < 100000) (h : vO n o) : 0 ≤ eO o ↔ o ≠ none := by
  cases o with
  | none => constructor
            · intro z; exact absurd z (by decide)
            · intro z; exact absurd rfl z
  | some k =>
    have := h k rfl
    constructor
    · intro _ z; cases z
    · intro _; exact nI_pos' (by omega)
theorem le_cp {n cap : Nat} (h : n ≤ 2 * cap) : n ≤ cp n cap := by unfold cp; split <;> omega
theorem cp_16 {n cap : Nat} (h : 16 ≤ cap) : 16 ≤ cp n cap := by unfold cp; split <;> omega
theorem cp_lt {n cap : Nat} (h : cap < 5000) : cp n cap < 10000 := by unfold cp; split <;> omega
theorem cp_tr {n m cap : Nat} (h : n ≤ m) (h2 : m ≤ 2 * cap) : cp m (cp n cap) = cp m cap := by
  unfold cp
  by_cases e : n ≤ cap
  · rw [if_pos e]
  · rw [if_neg e, if_pos h2, if_neg (by omega)]
theorem cst_tr {n m cap c : Nat} (h : n ≤ m) (h2 : m ≤ 2 * cap) : cst c n cap + cst c m (cp n cap) = cst c m cap := by
  unfold cst cp
  by_cases e : n ≤ cap
  · rw [if_pos e, if_pos e, Nat.zero_add]
  · rw [if_neg e, if_neg e, if_pos h2, if_neg (by omega)]
    rfl
theorem cst_trs {n m cap : Nat} (h : n ≤ m) (h2 : m ≤ 2 * cap) : cst (4 * cap) n cap + cst (4 * cp n cap) m (cp n cap) = cst (4 * cap) m cap := by
  unfold cst cp
  by_cases e : n ≤ cap
  · rw [if_pos e, if_pos e, Nat.zero_add]
  · rw [if_neg e, if_neg e, if_pos h2, if_neg (by omega)]
    rfl
theorem cst_mono {n m cap c : Nat} (h : n ≤ m) : cst c n cap ≤ cst c m cap := by
  unfold cst
  by_cases e : n ≤ cap
  · rw [if_pos e]; exact Nat.zero_le _
  · rw [if_neg e, if_neg (by omega)]; exact Nat.le_refl _
/-- the third making's net is at most three nodes longer -/
def m3 (l A B C : NT) : Prop := C.length ≤ l.length + 3
theorem and_len {M : Nat} {l : NT} {x y : Option Nat} : (nAnd M l x y).2.length ≤ l.length + 1 := by
  rcases nAnd_cases M l x y with ⟨k, e, -⟩ | ⟨e, -⟩ | ⟨a, b, e, -⟩
  · rw [e]; exact Nat.le_succ _
  · rw [e]; exact Nat.le_succ _
  · rw [e]; simp
theorem x3_ok {M : Nat} {l : NT} {z y : Nat} (hok : nOK l) (hz : z < 2 * l.length) (hy : y < 2 * l.length) (hM : nGates l ≤ M) : kept M l (nXa M l (some z) (some y)) ∧ kept M l (nXb M l (some z) (some y)) ∧ kept M l (nXor M l (some z) (some y)) ∧ vO (nXb M l (some z) (some y)).2.length (nXa M l (some z) (some y)).1 ∧ (nXa M l (some z) (some y)).2.length ≤ (nXb M l (some z) (some y)).2.length ∧ (nXb M l (some z) (some y)).2.length ≤ (nXor M l (some z) (some y)).2.length ∧ (nXor M l (some z) (some y)).2.length ≤ l.length + 3 := by
  have k1 : kept M l (nXa M l (some z) (some y)) := kept_and hok (vO_some hz) (vO_not (vO_some hy)) hM
  have l1 := k1.2.2.2.2.1
  have k2' : kept M (nXa M l (some z) (some y)).2 (nXb M l (some z) (some y)) := kept_and k1.1 (vO_mono (vO_not (vO_some hz)) l1) (vO_mono (vO_some hy) l1) k1.2.2.1
  have v1 := vO_mono k1.2.1 k2'.2.2.2.2.1
  have k2 := kept_tr k1 k2'
  have k3' : kept M (nXb M l (some z) (some y)).2 (nXor M l (some z) (some y)) := kept_or k2.1 v1 k2.2.1 k2.2.2.1
  have n1 : (nXa M l (some z) (some y)).2.length ≤ l.length + 1 := and_len
  have n2 : (nXb M l (some z) (some y)).2.length ≤ (nXa M l (some z) (some y)).2.length + 1 := and_len
  have n3 : (nXor M l (some z) (some y)).2.length ≤ (nXb M l (some z) (some y)).2.length + 1 := and_len
  exact ⟨k1, k2, kept_tr k2 k3', v1, k2'.2.2.2.2.1, k3'.2.2.2.2.1, by omega⟩
theorem c3_ok {M : Nat} {l : NT} {w z y : Nat} (hok : nOK l) (hw : w < 2 * l.length) (hz : z < 2 * l.length) (hy : y < 2 * l.length) (hM : nGates l ≤ M) : kept M l (nCa M l (some w) (some z)) ∧ kept M l (nCb M l (some w) (some z) (some y)) ∧ kept M l (nCh M l (some w) (some z) (some y)) ∧ vO (nCb M l (some w) (some z) (some y)).2.length (nCa M l (some w) (some z)).1 ∧ (nCa M l (some w) (some z)).2.length ≤ (nCb M l (some w) (some z) (some y)).2.length ∧ (nCb M l (some w) (some z) (some y)).2.length ≤ (nCh M l (some w) (some z) (some y)).2.length ∧ (nCh M l (some w) (some z) (some y)).2.length ≤ l.length + 3 := by
  have k1 : kept M l (nCa M l (some w) (some z)) := kept_and hok (vO_some hw) (vO_some hz) hM
  have l1 := k1.2.2.2.2.1
  have k2' : kept M (nCa M l (some w) (some z)).2 (nCb M l (some w) (some z) (some y)) := kept_and k1.1 (vO_mono (vO_not (vO_some hw)) l1) (vO_mono (vO_some hy) l1) k1.2.2.1
  have v1 := vO_mono k1.2.1 k2'.2.2.2.2.1
  have k2 := kept_tr k1 k2'
  have k3' : kept M (nCb M l (some w) (some z) (some y)).2 (nCh M l (some w) (some z) (some y)) := kept_or k2.1 v1 k2.2.1 k2.2.2.1
  have n1 : (nCa M l (some w) (some z)).2.length ≤ l.length + 1 := and_len
  have n2 : (nCb M l (some w) (some z) (some y)).2.length ≤ (nCa M l (some w) (some z)).2.length + 1 := and_len
  have n3 : (nCh M l (some w) (some z) (some y)).2.length ≤ (nCb M l (some w) (some z) (some y)).2.length + 1 := and_len
  exact ⟨k1, k2, kept_tr k2 k3', v1, k2'.2.2.2.2.1, k3'.2.2.2.2.1, by omega⟩
theorem and_full {M : Nat} {l : NT} {a b : Nat} (h : (nAnd M l (some a) (some b)).1 = none) : (nAnd M l (some a) (some b)).2 = l ∧ nGates l = M := by
  rcases nAnd_cases M l (some a) (some b) with ⟨k, e, -⟩ | ⟨e, h2⟩ | ⟨p, q, e, -⟩
  · rw [e] at h; cases h
  · rw [e]
    rcases h2 with h2 | h2 | h2
    · cases h2
    · cases h2
    · exact ⟨rfl, h2⟩
  · rw [e] at h; cases h
theorem and_stay {M : Nat} {l : NT} {x y : Option Nat} (h : nGates l = M) : (nAnd M l x y).2 = l := by
  rcases nAnd_cases M l x y with ⟨k, e, -⟩ | ⟨e, -⟩ | ⟨p, q, e, h2, -⟩
  · rw [e]
  · rw [e]
  · exact absurd h h2
theorem or_none {M : Nat} {l : NT} {y : Option Nat} : nOr M l none y = (none, l) := by
  unfold nOr
  rw [show nNot none = none from rfl, nAnd_l]
  rfl
theorem x3_none {M : Nat} {l : NT} {z y : Nat} (h : (nXa M l (some z) (some y)).1 = none) : nXor M l (some z) (some y) = (none, (nXa M l (some z) (some y)).2) := by
  obtain ⟨h1, h2⟩ := and_full (M := M) (l := l) (a := z) (b := nNeg y) h
  have h1 : (nXa M l (some z) (some y)).2 = l := h1
  have h3 : (nXb M l (some z) (some y)).2 = l := by
    unfold nXb
    rw [h1]
    exact and_stay h2
  unfold nXor
  rw [h, h3, or_none, h1]
theorem c3_none {M : Nat} {l : NT} {w z y : Nat} (h : (nCa M l (some w) (some z)).1 = none) : nCh M l (some w) (some z) (some y) = (none, (nCa M l (some w) (some z)).2) := by
  obtain ⟨h1, h2⟩ := and_full (M := M) (l := l) (a := w) (b := z) h
  have h1 : (nCa M l (some w) (some z)).2 = l := h1
  have h3 : (nCb M l (some w) (some z) (some y)).2 = l := by
    unfold nCb
    rw [h1]
    exact and_stay h2
  unfold nCh
  rw [h, h3, or_none, h1]
set_option maxHeartbeats 4000000 in
set_option maxRecDepth 100000 in
theorem c_X2_xor (lch : Launch) (D : va_G) (cyI cyJ : ClassId) (sz : Nat) (h : Nat) (a1 : Nat) (a2 : Nat) (cap : Nat) (lf : Nat → Int32) (of : Nat → Int32) (M : Nat) (l : NT) (z : Nat) (y : Nat) (hok : nOK l) (hrp : rpN l lf of) (hgM : nGates l ≤ M) (hcl : l.length ≤ cap) (hcap : 16 ≤ cap) (hM : M < 10000) (hcap2 : cap < 5000) (hz : z < 2 * l.length) (hy : y < 2 * l.length) : Met lch yX2_xor wsX2_xor ({ frames := 5, cells := cst 2 (nXor M l (some z) (some y)).2.length cap, slots := cst (4 * cap) (nXor M l (some z) (some y)).2.length cap, locals := 130 } : Room) (va_Pc [.ref h, .int (nI z), .int (nI y)] (xA D (xTy cyI cyJ) sz [(h, .inr (2, [.ref a1, .ref a2, .int (nI l.length), .int (nI (nGates l)), .int (nI M)])), (a1, .inl (cyI, cap, .inl lf)), (a2, .inl (cyI, cap, .inl of))])) (va_Qi (fun (r : Int32) (u : Nat × Nat × Nat × (Nat → Int32) × (Nat → Int32)) => r = eO (nXor M l (some z) (some y)).1 ∧ u.2.2.1 = cp (nXor M l (some z) (some y)).2.length cap ∧ rpN (nXor M l (some z) (some y)).2 u.2.2.2.1 u.2.2.2.2) (fun (u : Nat × Nat × Nat × (Nat → Int32) × (Nat → Int32)) t => xB D (xTy cyI cyJ) sz [(h, .inr (2, [.ref a1, .ref a2, .int (nI l.length), .int (nI (nGates l)), .int (nI M)])), (a1, .inl (cyI, cap, .inl lf)), (a2, .inl (cyI, cap, .inl of))] [(h, .inr (2, [.ref u.1, .ref u.2.1, .int (nI (nXor M l (some z) (some y)).2.length), .int (nI (nGates (nXor M l (some z) (some y)).2)), .int (nI M)])), (u.1, .inl (cyI, u.2.2.1, .inl u.2.2.2.1)), (u.2.1, .inl (cyI, u.2.2.1, .inl u.2.2.2.2))] t) (va_A [(h, .inr (2, [.ref a1, .ref a2, .int (nI l.length), .int (nI (nGates l)), .int (nI M)])), (a1, .inl (cyI, cap, .inl lf)), (a2, .inl (cyI, cap, .inl of))] sz)) (cst 2 (nXor M l (some z) (some y)).2.length cap) (cst (4 * cap) (nXor M l (some z) (some y)).2.length cap) (va_A [(h, .inr (2, [.ref a1, .ref a2, .int (nI l.length), .int (nI (nGates l)), .int (nI M)])), (a1, .inl (cyI, cap, .inl lf)), (a2, .inl (cyI, cap, .inl of))] sz) := by
  refine x_met RX2 (by decide) rfl rfl (Nat.le_of_ble_eq_true rfl) ?_
  intro p e s m below meth c A Q hAe hQ hx hb hr hlocks hml hnm hts hown hNN hK hsz hP hD hS hA ls hl
  have hP : va_P D vwCl [(h, .inr (2, [.ref a1, .ref a2, .int (nI l.length), .int (nI (nGates l)), .int (nI M)])), (a1, .inl (cyI, cap, .inl lf)), (a2, .inl (cyI, cap, .inl of))] s.heap := hP
  have hD : va_D A [(h, .inr (2, [.ref a1, .ref a2, .int (nI l.length), .int (nI (nGates l)), .int (nI M)])), (a1, .inl (cyI, cap, .inl lf)), (a2, .inl (cyI, cap, .inl of))] := hD
  have hl : lv_has ls 5 [(0, .ref h), (1, .int (nI z)), (2, .int (nI y))] := hl
  obtain ⟨k1, k2, k3, v1, m12, m23, mz⟩ := x3_ok hok hz hy hgM
  have m01 := k1.2.2.2.2.1
  have hL1 : (nXa M l (some z) (some y)).2.length < 100000 := by omega
  have h2A : (nXb M l (some z) (some y)).2.length ≤ 2 * cap := by omega
  have h2B : (nXor M l (some z) (some y)).2.length ≤ 2 * cap := by omega
  refine lv_aload_n hx hb dX2_xor_0 rfl (lv_at hl 0 rfl) ?_
  refine lv_iload_n hx hb dX2_xor_1 rfl (lv_at hl 1 rfl) ?_
  refine lv_iload_n hx hb dX2_xor_2 rfl (lv_at hl 2 rfl) ?_
  refine x_calli (wc := []) (wr := [(h, .inr (2, [.ref a1, .ref a2, .int (nI l.length), .int (nI (nGates l)), .int (nI M)])), (a1, .inl (cyI, cap, .inl lf)), (a2, .inl (cyI, cap, .inl of))]) (w2 := fun (u : Unit) => [(h, .inr (2, [.ref a1, .ref a2, .int (nI l.length), .int (nI (nGates l)), .int (nI M)])), (a1, .inl (cyI, cap, .inl lf)), (a2, .inl (cyI, cap, .inl of))]) [] [0, 1, 2] [0, 1, 2] (va_runS (As := [.int (nI y)]) (rest := [.int (nI z), .ref h]) ⟨hx, hb, hml, hown, hts⟩ (c_X2_not lch D cyI cyJ _ (some y) (vO_some (by omega))) (va_cwS 1 hts gX2_xor_X2_not rfl rfl rfl (by decide +kernel) ⟨Nat.le_of_ble_eq_true rfl, Nat.le_of_ble_eq_true rfl⟩) (x_pre hK hNN (hP.sub (ws' := []) [] rfl) (hD.sub (ws' := []) [] (by decide) rfl) rfl rfl) rfl rfl hl.1 rfl (lv_room (Nat.le_of_ble_eq_true rfl)) dX2_xor_3 ⟨Nat.le_of_ble_eq_true rfl, Nat.le_of_ble_eq_true rfl⟩) rfl hP hD hS hA rfl rfl (by decide) (by decide) (fun _ => rfl) (by decide) (fun r3 u3 H locs hw3 hP hD hS hz3 => ?_)
  have hP : va_P D vwCl [(h, .inr (2, [.ref a1, .ref a2, .int (nI l.length), .int (nI (nGates l)), .int (nI M)])), (a1, .inl (cyI, cap, .inl lf)), (a2, .inl (cyI, cap, .inl of))] H := hP
  have hD : va_D A [(h, .inr (2, [.ref a1, .ref a2, .int (nI l.length), .int (nI (nGates l)), .int (nI M)])), (a1, .inl (cyI, cap, .inl lf)), (a2, .inl (cyI, cap, .inl of))] := hD
  have hw3 : r3 = eO (nNot (some y)) := hw3
  subst hw3
  refine W.widen (k := 0) (n := 0) (Nat.le_refl _) (Nat.le_refl _) ?_
  refine x_top (show eO (nNot (some y)) = nI (nNeg y) from rfl) ?_
  refine x_calli (wc := [(h, .inr (2, [.ref a1, .ref a2, .int (nI l.length), .int (nI (nGates l)), .int (nI M)])), (a1, .inl (cyI, cap, .inl lf)), (a2, .inl (cyI, cap, .inl of))]) (wr := []) (w2 := fun (u : Nat × Nat × Nat × (Nat → Int32) × (Nat → Int32)) => [(h, .inr (2, [.ref u.1, .ref u.2.1, .int (nI (nAnd M l (some z) (some (nNeg y))).2.length), .int (nI (nGates (nAnd M l (some z) (some (nNeg y))).2)), .int (nI M)])), (u.1, .inl (cyI, u.2.2.1, .inl u.2.2.2.1)), (u.2.1, .inl (cyI, u.2.2.1, .inl u.2.2.2.2))]) [0, 1, 2] [] [0, 1, 2] (va_runV (As := [.int (nI z), .int (nI (nNeg y))]) (rest := []) ⟨hx, hb, hml, hown, hts⟩ (c_X2_and lch D cyI cyJ _ h a1 a2 cap lf of M l (some z) (some (nNeg y)) (by first | assumption | omega) (by first | assumption | omega) (by first | assumption | omega) (by first | assumption | omega) (by first | assumption | omega) (by omega) (by first | assumption | omega) (vO_some hz) (vO_some (nNeg_lt hy))) (cwV 2 hts gX2_xor_X2_and rfl rfl rfl (by decide +kernel) ⟨Nat.le_of_ble_eq_true rfl, Nat.le_of_ble_eq_true rfl⟩) (x_preV hK hNN (hP.sub (ws' := [(h, .inr (2, [.ref a1, .ref a2, .int (nI l.length), .int (nI (nGates l)), .int (nI M)])), (a1, .inl (cyI, cap, .inl lf)), (a2, .inl (cyI, cap, .inl of))]) [0, 1, 2] rfl) (hD.sub (ws' := [(h, .inr (2, [.ref a1, .ref a2, .int (nI l.length), .int (nI (nGates l)), .int (nI M)])), (a1, .inl (cyI, cap, .inl lf)), (a2, .inl (cyI, cap, .inl of))]) [0, 1, 2] (by decide) rfl) rfl rfl (ci := 2) (q0 := 0) rfl rfl rfl) rfl rfl hl.1 rfl (lv_room (Nat.le_of_ble_eq_true rfl)) dX2_xor_6 ⟨by dsimp only; rw [Nat.zero_add]; exact cst_mono (Nat.le_trans m12 m23), by dsimp only; rw [Nat.zero_add]; exact cst_mono (Nat.le_trans m12 m23)⟩) rfl hP hD hS hA rfl rfl (by decide) (by decide) (fun _ => rfl) (by decide) (fun r6 u6 H locs hw6 hP hD hS hz6 => ?_)
  obtain ⟨b1, b2, cap1, p1, q1⟩ := u6
  have hP : va_P D vwCl [(h, .inr (2, [.ref b1, .ref b2, .int (nI (nAnd M l (some z) (some (nNeg y))).2.length), .int (nI (nGates (nAnd M l (some z) (some (nNeg y))).2)), .int (nI M)])), (b1, .inl (cyI, cap1, .inl p1)), (b2, .inl (cyI, cap1, .inl q1))] H := hP
  have hD : va_D A [(h, .inr (2, [.ref b1, .ref b2, .int (nI (nAnd M l (some z) (some (nNeg y))).2.length), .int (nI (nGates (nAnd M l (some z) (some (nNeg y))).2)), .int (nI M)])), (b1, .inl (cyI, cap1, .inl p1)), (b2, .inl (cyI, cap1, .inl q1))] := hD
  have hw6 : r6 = eO (nAnd M l (some z) (some (nNeg y))).1 ∧ cap1 = cp (nAnd M l (some z) (some (nNeg y))).2.length cap ∧ rpN (nAnd M l (some z) (some (nNeg y))).2 p1 q1 := hw6
  obtain ⟨rfl, w1, w2⟩ := hw6
  subst w1
  have w2 : rpN (nXa M l (some z) (some y)).2 p1 q1 := w2
  refine lv_istore_n (lv' := [(3, .int (eO ((nXa M l (some z) (some y))).1)), (0, .ref h), (1, .int (nI z)), (2, .int (nI y))]) hx hb dX2_xor_9 rfl hl (by decide) rfl (fun ls hl => ?_)
  refine lv_iload_n hx hb dX2_xor_10 rfl (lv_at hl 0 rfl) ?_
  refine lv_if_ge (tgt := 16) hx hb dX2_xor_11 (by decide) (fun c11 => ?_) (fun c11 => ?_)
  · have c0 := (eO_ge hL1 k1.2.1).mp c11
    refine lv_aload_n hx hb dX2_xor_16 rfl (lv_at hl 1 rfl) ?_
    refine lv_iload_n hx hb dX2_xor_17 rfl (lv_at hl 2 rfl) ?_
    refine x_calli (wc := []) (wr := [(h, .inr (2, [.ref b1, .ref b2, .int (nI ((nXa M l (some z) (some y))).2.length), .int (nI (nGates ((nXa M l (some z) (some y))).2)), .int (nI M)])), (b1, .inl (cyI, (cp (nXa M l (some z) (some y)).2.length cap), .inl p1)), (b2, .inl (cyI, (cp (nXa M l (some z) (some y)).2.length cap), .inl q1))]) (w2 := fun (u : Unit) => [(h, .inr (2, [.ref b1, .ref b2, .int (nI ((nXa M l (some z) (some y))).2.length), .int (nI (nGates ((nXa M l (some z) (some y))).2)), .int (nI M)])), (b1, .inl (cyI, (cp (nXa M l (some z) (some y)).2.length cap), .inl p1)), (b2, .inl (cyI, (cp (nXa M l (some z) (some y)).2.length cap), .inl q1))]) [] [0, 1, 2] [0, 1, 2] (va_runS (As := [.int (nI z)]) (rest := [.ref h]) ⟨hx, hb, hml, hown, hts⟩ (c_X2_not lch D cyI cyJ _ (some z) (vO_some (by omega))) (va_cwS 1 hts gX2_xor_X2_not rfl rfl rfl (by decide +kernel) ⟨Nat.le_of_ble_eq_true rfl, Nat.le_of_ble_eq_true rfl⟩) (x_pre hK hNN (hP.sub (ws' := []) [] rfl) (hD.sub (ws' := []) [] (by decide) rfl) rfl rfl) rfl rfl hl.1 rfl (lv_room (Nat.le_of_ble_eq_true rfl)) dX2_xor_18 ⟨by dsimp only; rw [Nat.zero_add, Nat.add_zero]; exact cst_mono (Nat.le_trans m12 m23), by dsimp only; rw [Nat.zero_add, Nat.add_zero]; exact cst_mono (Nat.le_trans m12 m23)⟩) rfl hP hD hS hA rfl rfl (by decide) (by decide) (fun _ => rfl) (by decide) (fun r18 u18 H locs hw18 hP hD hS hz18 => ?_)
    have hP : va_P D vwCl [(h, .inr (2, [.ref b1, .ref b2, .int (nI ((nXa M l (some z) (some y))).2.length), .int (nI (nGates ((nXa M l (some z) (some y))).2)), .int (nI M)])), (b1, .inl (cyI, (cp (nXa M l (some z) (some y)).2.length cap), .inl p1)), (b2, .inl (cyI, (cp (nXa M l (some z) (some y)).2.length cap), .inl q1))] H := hP
    have hD : va_D A [(h, .inr (2, [.ref b1, .ref b2, .int (nI ((nXa M l (some z) (some y))).2.length), .int (nI (nGates ((nXa M l (some z) (some y))).2)), .int (nI M)])), (b1, .inl (cyI, (cp (nXa M l (some z) (some y)).2.length cap), .inl p1)), (b2, .inl (cyI, (cp (nXa M l (some z) (some y)).2.length cap), .inl q1))] := hD
    have hw18 : r18 = eO (nNot (some z)) := hw18
    subst hw18
    refine W.widen (k := 0 + (cst 2 (nAnd M l (some z) (some (nNeg y))).2.length cap)) (n := 0 + (cst (4 * cap) (nAnd M l (some z) (some (nNeg y))).2.length cap)) (Nat.le_refl _) (Nat.le_refl _) ?_
    refine x_top (show eO (nNot (some z)) = nI (nNeg z) from rfl) ?_
    refine lv_iload_n hx hb dX2_xor_21 rfl (lv_at hl 3 rfl) ?_
    refine x_calli (wc := [(h, .inr (2, [.ref b1, .ref b2, .int (nI (nXa M l (some z) (some y)).2.length), .int (nI (nGates (nXa M l (some z) (some y)).2)), .int (nI M)])), (b1, .inl (cyI, (cp (nXa M l (some z) (some y)).2.length cap), .inl p1)), (b2, .inl (cyI, (cp (nXa M l (some z) (some y)).2.length cap), .inl q1))]) (wr := []) (w2 := fun (u : Nat × Nat × Nat × (Nat → Int32) × (Nat → Int32)) => [(h, .inr (2, [.ref u.1, .ref u.2.1, .int (nI (nAnd M (nXa M l (some z) (some y)).2 (some (nNeg z)) (some y)).2.length), .int (nI (nGates (nAnd M (nXa M l (some z) (some y)).2 (some (nNeg z)) (some y)).2)), .int (nI M)])), (u.1, .inl (cyI, u.2.2.1, .inl u.2.2.2.1)), (u.2.1, .inl (cyI, u.2.2.1, .inl u.2.2.2.2))]) [0, 1, 2] [] [0, 1, 2] (va_runV (As := [.int (nI (nNeg z)), .int (nI y)]) (rest := []) ⟨hx, hb, hml, hown, hts⟩ (c_X2_and lch D cyI cyJ _ h b1 b2 (cp (nXa M l (some z) (some y)).2.length cap) p1 q1 M (nXa M l (some z) (some y)).2 (some (nNeg z)) (some y) k1.1 w2 k1.2.2.1 (le_cp (by omega)) (cp_16 hcap) (cp_lt hcap2) (by first | assumption | omega) (vO_some (nNeg_lt (by omega))) (vO_some (by omega))) (cwV 2 hts gX2_xor_X2_and rfl rfl rfl (by decide +kernel) ⟨Nat.le_of_ble_eq_true rfl, Nat.le_of_ble_eq_true rfl⟩) (x_preV hK hNN (hP.sub (ws' := [(h, .inr (2, [.ref b1, .ref b2, .int (nI (nXa M l (some z) (some y)).2.length), .int (nI (nGates (nXa M l (some z) (some y)).2)), .int (nI M)])), (b1, .inl (cyI, (cp (nXa M l (some z) (some y)).2.length cap), .inl p1)), (b2, .inl (cyI, (cp (nXa M l (some z) (some y)).2.length cap), .inl q1))]) [0, 1, 2] rfl) (hD.sub (ws' := [(h, .inr (2, [.ref b1, .ref b2, .int (nI (nXa M l (some z) (some y)).2.length), .int (nI (nGates (nXa M l (some z) (some y)).2)), .int (nI M)])), (b1, .inl (cyI, (cp (nXa M l (some z) (some y)).2.length cap), .inl p1)), (b2, .inl (cyI, (cp (nXa M l (some z) (some y)).2.length cap), .inl q1))]) [0, 1, 2] (by decide) rfl) rfl rfl (ci := 2) (q0 := 0) rfl rfl rfl) rfl rfl hl.1 rfl (lv_room (Nat.le_of_ble_eq_true rfl)) dX2_xor_22 ⟨by dsimp only; rw [Nat.zero_add]; exact Nat.le_trans (Nat.le_of_eq (cst_tr m12 h2A)) (cst_mono m23), by dsimp only; rw [Nat.zero_add]; exact Nat.le_trans (Nat.le_of_eq (cst_trs m12 h2A)) (cst_mono m23)⟩) rfl hP hD hS hA rfl rfl (by decide) (by decide) (fun _ => rfl) (by decide) (fun r22 u22 H locs hw22 hP hD hS hz22 => ?_)
    obtain ⟨d1, d2, cap2, p2, q2⟩ := u22
    have hP : va_P D vwCl [(h, .inr (2, [.ref d1, .ref d2, .int (nI (nAnd M (nXa M l (some z) (some y)).2 (some (nNeg z)) (some y)).2.length), .int (nI (nGates (nAnd M (nXa M l (some z) (some y)).2 (some (nNeg z)) (some y)).2)), .int (nI M)])), (d1, .inl (cyI, cap2, .inl p2)), (d2, .inl (cyI, cap2, .inl q2))] H := hP
    have hD : va_D A [(h, .inr (2, [.ref d1, .ref d2, .int (nI (nAnd M (nXa M l (some z) (some y)).2 (some (nNeg z)) (some y)).2.length), .int (nI (nGates (nAnd M (nXa M l (some z) (some y)).2 (some (nNeg z)) (some y)).2)), .int (nI M)])), (d1, .inl (cyI, cap2, .inl p2)), (d2, .inl (cyI, cap2, .inl q2))] := hD
    have hw22 : r22 = eO (nAnd M (nXa M l (some z) (some y)).2 (some (nNeg z)) (some y)).1 ∧ cap2 = cp (nAnd M (nXa M l (some z) (some y)).2 (some (nNeg z)) (some y)).2.length (cp (nXa M l (some z) (some y)).2.length cap) ∧ rpN (nAnd M (nXa M l (some z) (some y)).2 (some (nNeg z)) (some y)).2 p2 q2 := hw22
    obtain ⟨rfl, w3, w4⟩ := hw22
    refine W.widen (k := cst 2 (nXb M l (some z) (some y)).2.length cap) (n := cst (4 * cap) (nXb M l (some z) (some y)).2.length cap) (Nat.le_of_eq (by rw [Nat.zero_add]; exact cst_tr m12 h2A)) (Nat.le_of_eq (by rw [Nat.zero_add]; exact cst_trs m12 h2A)) ?_
    have w3 := w3.trans (cp_tr m12 h2A)
    subst w3
    have w4 : rpN (nXb M l (some z) (some y)).2 p2 q2 := w4
    refine lv_istore (lv' := [(4, .int (eO ((nXb M l (some z) (some y))).1)), (3, .int (eO ((nXa M l (some z) (some y))).1)), (0, .ref h), (1, .int (nI z)), (2, .int (nI y))]) hx hb dX2_xor_25 hl (by decide) rfl (fun ls hl => ?_)
    refine lv_aload_n hx hb dX2_xor_27 rfl (lv_at hl 2 rfl) ?_
    refine lv_iload_n hx hb dX2_xor_28 rfl (lv_at hl 1 rfl) ?_
    refine lv_iload hx hb dX2_xor_29 (lv_at hl 0 rfl) ?_
    refine x_calli (wc := [(h, .inr (2, [.ref d1, .ref d2, .int (nI (nXb M l (some z) (some y)).2.length), .int (nI (nGates (nXb M l (some z) (some y)).2)), .int (nI M)])), (d1, .inl (cyI, (cp (nXb M l (some z) (some y)).2.length cap), .inl p2)), (d2, .inl (cyI, (cp (nXb M l (some z) (some y)).2.length cap), .inl q2))]) (wr := []) (w2 := fun (u : Nat × Nat × Nat × (Nat → Int32) × (Nat → Int32)) => [(h, .inr (2, [.ref u.1, .ref u.2.1, .int (nI (nOr M (nXb M l (some z) (some y)).2 (nXa M l (some z) (some y)).1 (nXb M l (some z) (some y)).1).2.length), .int (nI (nGates (nOr M (nXb M l (some z) (some y)).2 (nXa M l (some z) (some y)).1 (nXb M l (some z) (some y)).1).2)), .int (nI M)])), (u.1, .inl (cyI, u.2.2.1, .inl u.2.2.2.1)), (u.2.1, .inl (cyI, u.2.2.1, .inl u.2.2.2.2))]) [0, 1, 2] [] [0, 1, 2] (va_runV (As := [.int (eO ((nXa M l (some z) (some y))).1), .int (eO ((nXb M l (some z) (some y))).1)]) (rest := []) ⟨hx, hb, hml, hown, hts⟩ (c_X2_or lch D cyI cyJ _ h d1 d2 (cp (nXb M l (some z) (some y)).2.length cap) p2 q2 M (nXb M l (some z) (some y)).2 (nXa M l (some z) (some y)).1 (nXb M l (some z) (some y)).1 k2.1 w4 k2.2.2.1 (le_cp (by omega)) (cp_16 hcap) (cp_lt hcap2) (by first | assumption | omega) v1 k2.2.1) (cwV 2 hts gX2_xor_X2_or rfl rfl rfl (by decide +kernel) ⟨Nat.le_of_ble_eq_true rfl, Nat.le_of_ble_eq_true rfl⟩) (x_preV hK hNN (hP.sub (ws' := [(h, .inr (2, [.ref d1, .ref d2, .int (nI (nXb M l (some z) (some y)).2.length), .int (nI (nGates (nXb M l (some z) (some y)).2)), .int (nI M)])), (d1, .inl (cyI, (cp (nXb M l (some z) (some y)).2.length cap), .inl p2)), (d2, .inl (cyI, (cp (nXb M l (some z) (some y)).2.length cap), .inl q2))]) [0, 1, 2] rfl) (hD.sub (ws' := [(h, .inr (2, [.ref d1, .ref d2, .int (nI (nXb M l (some z) (some y)).2.length), .int (nI (nGates (nXb M l (some z) (some y)).2)), .int (nI M)])), (d1, .inl (cyI, (cp (nXb M l (some z) (some y)).2.length cap), .inl p2)), (d2, .inl (cyI, (cp (nXb M l (some z) (some y)).2.length cap), .inl q2))]) [0, 1, 2] (by decide) rfl) rfl rfl (ci := 2) (q0 := 0) rfl rfl rfl) rfl rfl hl.1 rfl (lv_room (Nat.le_of_ble_eq_true rfl)) dX2_xor_31 ⟨by dsimp only; exact Nat.le_of_eq (cst_tr m23 h2B), by dsimp only; exact Nat.le_of_eq (cst_trs m23 h2B)⟩) rfl hP hD hS hA rfl rfl (by decide) (by decide) (fun _ => rfl) (by decide) (fun r31 u31 H locs hw31 hP hD hS hz31 => ?_)
    obtain ⟨g1, g2, cap3, p3, q3⟩ := u31
    have hP : va_P D vwCl [(h, .inr (2, [.ref g1, .ref g2, .int (nI (nOr M (nXb M l (some z) (some y)).2 (nXa M l (some z) (some y)).1 (nXb M l (some z) (some y)).1).2.length), .int (nI (nGates (nOr M (nXb M l (some z) (some y)).2 (nXa M l (some z) (some y)).1 (nXb M l (some z) (some y)).1).2)), .int (nI M)])), (g1, .inl (cyI, cap3, .inl p3)), (g2, .inl (cyI, cap3, .inl q3))] H := hP
    have hD : va_D A [(h, .inr (2, [.ref g1, .ref g2, .int (nI (nOr M (nXb M l (some z) (some y)).2 (nXa M l (some z) (some y)).1 (nXb M l (some z) (some y)).1).2.length), .int (nI (nGates (nOr M (nXb M l (some z) (some y)).2 (nXa M l (some z) (some y)).1 (nXb M l (some z) (some y)).1).2)), .int (nI M)])), (g1, .inl (cyI, cap3, .inl p3)), (g2, .inl (cyI, cap3, .inl q3))] := hD
    have hw31 : r31 = eO (nOr M (nXb M l (some z) (some y)).2 (nXa M l (some z) (some y)).1 (nXb M l (some z) (some y)).1).1 ∧ cap3 = cp (nOr M (nXb M l (some z) (some y)).2 (nXa M l (some z) (some y)).1 (nXb M l (some z) (some y)).1).2.length (cp (nXb M l (some z) (some y)).2.length cap) ∧ rpN (nOr M (nXb M l (some z) (some y)).2 (nXa M l (some z) (some y)).1 (nXb M l (some z) (some y)).1).2 p3 q3 := hw31
    obtain ⟨rfl, w5, w6⟩ := hw31
    refine W.widen (k := cst 2 (nXor M l (some z) (some y)).2.length cap) (n := cst (4 * cap) (nXor M l (some z) (some y)).2.length cap) (Nat.le_of_eq (cst_tr m23 h2B)) (Nat.le_of_eq (cst_trs m23 h2B)) ?_
    have w5 := w5.trans (cp_tr m23 h2B)
    subst w5
    have w6 : rpN (nXor M l (some z) (some y)).2 p3 q3 := w6
    exact x_iret hQ hAe hx hb hr hlocks (rfl) hS hK (Nat.le_refl _) (Nat.le_refl _) dX2_xor_34 (g1, g2, cp (nXor M l (some z) (some y)).2.length cap, p3, q3) hP hD (⟨rfl, rfl, w6⟩)
  · have c0 : (nXa M l (some z) (some y)).1 = none := Classical.byContradiction (fun z => c11 ((eO_ge hL1 k1.2.1).mpr z))
    refine lv_iconst (v := (-1)) hx hb dX2_xor_14 (by decide) ?_
    rw [x3_none c0] at hQ
    exact x_iret hQ hAe hx hb hr hlocks (rfl) hS hK (by rw [Nat.zero_add]; exact Nat.le_refl (cst 2 (nXa M l (some z) (some y)).2.length cap)) (by rw [Nat.zero_add]; exact Nat.le_refl (cst (4 * cap) (nXa M l (some z) (some y)).2.length cap)) dX2_xor_15 (b1, b2, cp (nXa M l (some z) (some y)).2.length cap, p1, q1) hP hD (⟨rfl, rfl, w2⟩)
set_option maxHeartbeats 4000000 in
set_option maxRecDepth 100000 in
theorem c_X2_choose (lch : Launch) (D : va_G) (cyI cyJ : ClassId) (sz : Nat) (h : Nat) (a1 : Nat) (a2 : Nat) (cap : Nat) (lf : Nat → Int32) (of : Nat → Int32) (M : Nat) (l : NT) (w : Nat) (z : Nat) (y : Nat) (hok : nOK l) (hrp : rpN l lf of) (hgM : nGates l ≤ M) (hcl : l.length ≤ cap) (hcap : 16 ≤ cap) (hM : M < 10000) (hcap2 : cap < 5000) (hw : w < 2 * l.length) (hz : z < 2 * l.length) (hy : y < 2 * l.length) : Met lch yX2_choose wsX2_choose ({ frames := 5, cells := cst 2 (nCh M l (some w) (some z) (some y)).2.length cap, slots := cst (4 * cap) (nCh M l (some w) (some z) (some y)).2.length cap, locals := 130 } : Room) (va_Pc [.ref h, .int (nI w), .int (nI z), .int (nI y)] (xA D (xTy cyI cyJ) sz [(h, .inr (2, [.ref a1, .ref a2, .int (nI l.length), .int (nI (nGates l)), .int (nI M)])), (a1, .inl (cyI, cap, .inl lf)), (a2, .inl (cyI, cap, .inl of))])) (va_Qi (fun (r : Int32) (u : Nat × Nat × Nat × (Nat → Int32) × (Nat → Int32)) => r = eO (nCh M l (some w) (some z) (some y)).1 ∧ u.2.2.1 = cp (nCh M l (some w) (some z) (some y)).2.length cap ∧ rpN (nCh M l (some w) (some z) (some y)).2 u.2.2.2.1 u.2.2.2.2) (fun (u : Nat × Nat × Nat × (Nat → Int32) × (Nat → Int32)) t => xB D (xTy cyI cyJ) sz [(h, .inr (2, [.ref a1, .ref a2, .int (nI l.length), .int (nI (nGates l)), .int (nI M)])), (a1, .inl (cyI, cap, .inl lf)), (a2, .inl (cyI, cap, .inl of))] [(h, .inr (2, [.ref u.1, .ref u.2.1, .int (nI (nCh M l (some w) (some z) (some y)).2.length), .int (nI (nGates (nCh M l (some w) (some z) (some y)).2)), .int (nI M)])), (u.1, .inl (cyI, u.2.2.1, .inl u.2.2.2.1)), (u.2.1, .inl (cyI, u.2.2.1, .inl u.2.2.2.2))] t) (va_A [(h, .inr (2, [.ref a1, .ref a2, .int (nI l.length), .int (nI (nGates l)), .int (nI M)])), (a1, .inl (cyI, cap, .inl lf)), (a2, .inl (cyI, cap, .inl of))] sz)) (cst 2 (nCh M l (some w) (some z) (some y)).2.length cap) (cst (4 * cap) (nCh M l (some w) (some z) (some y)).2.length cap) (va_A [(h, .inr (2, [.ref a1, .ref a2, .int (nI l.length), .int (nI (nGates l)), .int (nI M)])), (a1, .inl (cyI, cap, .inl lf)), (a2, .inl (cyI, cap, .inl of))] sz) := by
  refine x_met RX2 (by decide) rfl rfl (Nat.le_of_ble_eq_true rfl) ?_
  intro p e s m below meth c A Q hAe hQ hx hb hr hlocks hml hnm hts hown hNN hK hsz hP hD hS hA ls hl
  have hP : va_P D vwCl [(h, .inr (2, [.ref a1, .ref a2, .int (nI l.length), .int (nI (nGates l)), .int (nI M)])), (a1, .inl (cyI, cap, .inl lf)), (a2, .inl (cyI, cap, .inl of))] s.heap := hP
  have hD : va_D A [(h, .inr (2, [.ref a1, .ref a2, .int (nI l.length), .int (nI (nGates l)), .int (nI M)])), (a1, .inl (cyI, cap, .inl lf)), (a2, .inl (cyI, cap, .inl of))] := hD
  have hl : lv_has ls 6 [(0, .ref h), (1, .int (nI w)), (2, .int (nI z)), (3, .int (nI y))] := hl
  obtain ⟨k1, k2, k3, v1, m12, m23, mz⟩ := c3_ok hok hw hz hy hgM
  have m01 := k1.2.2.2.2.1
  have hL1 : (nCa M l (some w) (some z)).2.length < 100000 := by omega
  have h2A : (nCb M l (some w) (some z) (some y)).2.length ≤ 2 * cap := by omega
  have h2B : (nCh M l (some w) (some z) (some y)).2.length ≤ 2 * cap := by omega
  refine lv_aload_n hx hb dX2_choose_0 rfl (lv_at hl 0 rfl) ?_
  refine lv_iload_n hx hb dX2_choose_1 rfl (lv_at hl 1 rfl) ?_
  refine lv_iload_n hx hb dX2_choose_2 rfl (lv_at hl 2 rfl) ?_
  refine x_calli (wc := [(h, .inr (2, [.ref a1, .ref a2, .int (nI l.length), .int (nI (nGates l)), .int (nI M)])), (a1, .inl (cyI, cap, .inl lf)), (a2, .inl (cyI, cap, .inl of))]) (wr := []) (w2 := fun (u : Nat × Nat × Nat × (Nat → Int32) × (Nat → Int32)) => [(h, .inr (2, [.ref u.1, .ref u.2.1, .int (nI (nAnd M l (some w) (some z)).2.length), .int (nI (nGates (nAnd M l (some w) (some z)).2)), .int (nI M)])), (u.1, .inl (cyI, u.2.2.1, .inl u.2.2.2.1)), (u.2.1, .inl (cyI, u.2.2.1, .inl u.2.2.2.2))]) [0, 1, 2] [] [0, 1, 2] (va_runV (As := [.int (nI w), .int (nI z)]) (rest := []) ⟨hx, hb, hml, hown, hts⟩ (c_X2_and lch D cyI cyJ _ h a1 a2 cap lf of M l (some w) (some z) (by first | assumption | omega) (by first | assumption | omega) (by first | assumption | omega) (by first | assumption | omega) (by first | assumption | omega) (by omega) (by first | assumption | omega) (vO_some hw) (vO_some hz)) (cwV 2 hts gX2_choose_X2_and rfl rfl rfl (by decide +kernel) ⟨Nat.le_of_ble_eq_true rfl, Nat.le_of_ble_eq_true rfl⟩) (x_preV hK hNN (hP.sub (ws' := [(h, .inr (2, [.ref a1, .ref a2, .int (nI l.length), .int (nI (nGates l)), .int (nI M)])), (a1, .inl (cyI, cap, .inl lf)), (a2, .inl (cyI, cap, .inl of))]) [0, 1, 2] rfl) (hD.sub (ws' := [(h, .inr (2, [.ref a1, .ref a2, .int (nI l.length), .int (nI (nGates l)), .int (nI M)])), (a1, .inl (cyI, cap, .inl lf)), (a2, .inl (cyI, cap, .inl of))]) [0, 1, 2] (by decide) rfl) rfl rfl (ci := 2) (q0 := 0) rfl rfl rfl) rfl rfl hl.1 rfl (lv_room (Nat.le_of_ble_eq_true rfl)) dX2_choose_3 ⟨by dsimp only; rw [Nat.zero_add]; exact cst_mono (Nat.le_trans m12 m23), by dsimp only; rw [Nat.zero_add]; exact cst_mono (Nat.le_trans m12 m23)⟩) rfl hP hD hS hA rfl rfl (by decide) (by decide) (fun _ => rfl) (by decide) (fun r3 u3 H locs hw3 hP hD hS hz3 => ?_)
  obtain ⟨b1, b2, cap1, p1, q1⟩ := u3
  have hP : va_P D vwCl [(h, .inr (2, [.ref b1, .ref b2, .int (nI (nAnd M l (some w) (some z)).2.length), .int (nI (nGates (nAnd M l (some w) (some z)).2)), .int (nI M)])), (b1, .inl (cyI, cap1, .inl p1)), (b2, .inl (cyI, cap1, .inl q1))] H := hP
  have hD : va_D A [(h, .inr (2, [.ref b1, .ref b2, .int (nI (nAnd M l (some w) (some z)).2.length), .int (nI (nGates (nAnd M l (some w) (some z)).2)), .int (nI M)])), (b1, .inl (cyI, cap1, .inl p1)), (b2, .inl (cyI, cap1, .inl q1))] := hD
  have hw3 : r3 = eO (nAnd M l (some w) (some z)).1 ∧ cap1 = cp (nAnd M l (some w) (some z)).2.length cap ∧ rpN (nAnd M l (some w) (some z)).2 p1 q1 := hw3
  obtain ⟨rfl, w1, w2⟩ := hw3
  subst w1
  have w2 : rpN (nCa M l (some w) (some z)).2 p1 q1 := w2
  refine lv_istore (lv' := [(4, .int (eO ((nCa M l (some w) (some z))).1)), (0, .ref h), (1, .int (nI w)), (2, .int (nI z)), (3, .int (nI y))]) hx hb dX2_choose_6 hl (by decide) rfl (fun ls hl => ?_)
  refine lv_iload hx hb dX2_choose_8 (lv_at hl 0 rfl) ?_
  refine lv_if_ge (tgt := 15) hx hb dX2_choose_10 (by decide) (fun c10 => ?_) (fun c10 => ?_)
  · have c0 := (eO_ge hL1 k1.2.1).mp c10
    refine lv_aload_n hx hb dX2_choose_15 rfl (lv_at hl 1 rfl) ?_
    refine lv_iload_n hx hb dX2_choose_16 rfl (lv_at hl 2 rfl) ?_
    refine x_calli (wc := []) (wr := [(h, .inr (2, [.ref b1, .ref b2, .int (nI ((nCa M l (some w) (some z))).2.length), .int (nI (nGates ((nCa M l (some w) (some z))).2)), .int (nI M)])), (b1, .inl (cyI, (cp (nCa M l (some w) (some z)).2.length cap), .inl p1)), (b2, .inl (cyI, (cp (nCa M l (some w) (some z)).2.length cap), .inl q1))]) (w2 := fun (u : Unit) => [(h, .inr (2, [.ref b1, .ref b2, .int (nI ((nCa M l (some w) (some z))).2.length), .int (nI (nGates ((nCa M l (some w) (some z))).2)), .int (nI M)])), (b1, .inl (cyI, (cp (nCa M l (some w) (some z)).2.length cap), .inl p1)), (b2, .inl (cyI, (cp (nCa M l (some w) (some z)).2.length cap), .inl q1))]) [] [0, 1, 2] [0, 1, 2] (va_runS (As := [.int (nI w)]) (rest := [.ref h]) ⟨hx, hb, hml, hown, hts⟩ (c_X2_not lch D cyI cyJ _ (some w) (vO_some (by omega))) (va_cwS 1 hts gX2_choose_X2_not rfl rfl rfl (by decide +kernel) ⟨Nat.le_of_ble_eq_true rfl, Nat.le_of_ble_eq_true rfl⟩) (x_pre hK hNN (hP.sub (ws' := []) [] rfl) (hD.sub (ws' := []) [] (by decide) rfl) rfl rfl) rfl rfl hl.1 rfl (lv_room (Nat.le_of_ble_eq_true rfl)) dX2_choose_17 ⟨by dsimp only; rw [Nat.zero_add, Nat.add_zero]; exact cst_mono (Nat.le_trans m12 m23), by dsimp only; rw [Nat.zero_add, Nat.add_zero]; exact cst_mono (Nat.le_trans m12 m23)⟩) rfl hP hD hS hA rfl rfl (by decide) (by decide) (fun _ => rfl) (by decide) (fun r17 u17 H locs hw17 hP hD hS hz17 => ?_)
    have hP : va_P D vwCl [(h, .inr (2, [.ref b1, .ref b2, .int (nI ((nCa M l (some w) (some z))).2.length), .int (nI (nGates ((nCa M l (some w) (some z))).2)), .int (nI M)])), (b1, .inl (cyI, (cp (nCa M l (some w) (some z)).2.length cap), .inl p1)), (b2, .inl (cyI, (cp (nCa M l (some w) (some z)).2.length cap), .inl q1))] H := hP
    have hD : va_D A [(h, .inr (2, [.ref b1, .ref b2, .int (nI ((nCa M l (some w) (some z))).2.length), .int (nI (nGates ((nCa M l (some w) (some z))).2)), .int (nI M)])), (b1, .inl (cyI, (cp (nCa M l (some w) (some z)).2.length cap), .inl p1)), (b2, .inl (cyI, (cp (nCa M l (some w) (some z)).2.length cap), .inl q1))] := hD
    have hw17 : r17 = eO (nNot (some w)) := hw17
    subst hw17
    refine W.widen (k := 0 + (cst 2 (nAnd M l (some w) (some z)).2.length cap)) (n := 0 + (cst (4 * cap) (nAnd M l (some w) (some z)).2.length cap)) (Nat.le_refl _) (Nat.le_refl _) ?_
    refine x_top (show eO (nNot (some w)) = nI (nNeg w) from rfl) ?_
    refine lv_iload_n hx hb dX2_choose_20 rfl (lv_at hl 4 rfl) ?_
    refine x_calli (wc := [(h, .inr (2, [.ref b1, .ref b2, .int (nI (nCa M l (some w) (some z)).2.length), .int (nI (nGates (nCa M l (some w) (some z)).2)), .int (nI M)])), (b1, .inl (cyI, (cp (nCa M l (some w) (some z)).2.length cap), .inl p1)), (b2, .inl (cyI, (cp (nCa M l (some w) (some z)).2.length cap), .inl q1))]) (wr := []) (w2 := fun (u : Nat × Nat × Nat × (Nat → Int32) × (Nat → Int32)) => [(h, .inr (2, [.ref u.1, .ref u.2.1, .int (nI (nAnd M (nCa M l (some w) (some z)).2 (some (nNeg w)) (some y)).2.length), .int (nI (nGates (nAnd M (nCa M l (some w) (some z)).2 (some (nNeg w)) (some y)).2)), .int (nI M)])), (u.1, .inl (cyI, u.2.2.1, .inl u.2.2.2.1)), (u.2.1, .inl (cyI, u.2.2.1, .inl u.2.2.2.2))]) [0, 1, 2] [] [0, 1, 2] (va_runV (As := [.int (nI (nNeg w)), .int (nI y)]) (rest := []) ⟨hx, hb, hml, hown, hts⟩ (c_X2_and lch D cyI cyJ _ h b1 b2 (cp (nCa M l (some w) (some z)).2.length cap) p1 q1 M (nCa M l (some w) (some z)).2 (some (nNeg w)) (some y) k1.1 w2 k1.2.2.1 (le_cp (by omega)) (cp_16 hcap) (cp_lt hcap2) (by first | assumption | omega) (vO_some (nNeg_lt (by omega))) (vO_some (by omega))) (cwV 2 hts gX2_choose_X2_and rfl rfl rfl (by decide +kernel) ⟨Nat.le_of_ble_eq_true rfl, Nat.le_of_ble_eq_true rfl⟩) (x_preV hK hNN (hP.sub (ws' := [(h, .inr (2, [.ref b1, .ref b2, .int (nI (nCa M l (some w) (some z)).2.length), .int (nI (nGates (nCa M l (some w) (some z)).2)), .int (nI M)])), (b1, .inl (cyI, (cp (nCa M l (some w) (some z)).2.length cap), .inl p1)), (b2, .inl (cyI, (cp (nCa M l (some w) (some z)).2.length cap), .inl q1))]) [0, 1, 2] rfl) (hD.sub (ws' := [(h, .inr (2, [.ref b1, .ref b2, .int (nI (nCa M l (some w) (some z)).2.length), .int (nI (nGates (nCa M l (some w) (some z)).2)), .int (nI M)])), (b1, .inl (cyI, (cp (nCa M l (some w) (some z)).2.length cap), .inl p1)), (b2, .inl (cyI, (cp (nCa M l (some w) (some z)).2.length cap), .inl q1))]) [0, 1, 2] (by decide) rfl) rfl rfl (ci := 2) (q0 := 0) rfl rfl rfl) rfl rfl hl.1 rfl (lv_room (Nat.le_of_ble_eq_true rfl)) dX2_choose_21 ⟨by dsimp only; rw [Nat.zero_add]; exact Nat.le_trans (Nat.le_of_eq (cst_tr m12 h2A)) (cst_mono m23), by dsimp only; rw [Nat.zero_add]; exact Nat.le_trans (Nat.le_of_eq (cst_trs m12 h2A)) (cst_mono m23)⟩) rfl hP hD hS hA rfl rfl (by decide) (by decide) (fun _ => rfl) (by decide) (fun r21 u21 H locs hw21 hP hD hS hz21 => ?_)
    obtain ⟨d1, d2, cap2, p2, q2⟩ := u21
    have hP : va_P D vwCl [(h, .inr (2, [.ref d1, .ref d2, .int (nI (nAnd M (nCa M l (some w) (some z)).2 (some (nNeg w)) (some y)).2.length), .int (nI (nGates (nAnd M (nCa M l (some w) (some z)).2 (some (nNeg w)) (some y)).2)), .int (nI M)])), (d1, .inl (cyI, cap2, .inl p2)), (d2, .inl (cyI, cap2, .inl q2))] H := hP
    have hD : va_D A [(h, .inr (2, [.ref d1, .ref d2, .int (nI (nAnd M (nCa M l (some w) (some z)).2 (some (nNeg w)) (some y)).2.length), .int (nI (nGates (nAnd M (nCa M l (some w) (some z)).2 (some (nNeg w)) (some y)).2)), .int (nI M)])), (d1, .inl (cyI, cap2, .inl p2)), (d2, .inl (cyI, cap2, .inl q2))] := hD
    have hw21 : r21 = eO (nAnd M (nCa M l (some w) (some z)).2 (some (nNeg w)) (some y)).1 ∧ cap2 = cp (nAnd M (nCa M l (some w) (some z)).2 (some (nNeg w)) (some y)).2.length (cp (nCa M l (some w) (some z)).2.length cap) ∧ rpN (nAnd M (nCa M l (some w) (some z)).2 (some (nNeg w)) (some y)).2 p2 q2 := hw21
    obtain ⟨rfl, w3, w4⟩ := hw21
    refine W.widen (k := cst 2 (nCb M l (some w) (some z) (some y)).2.length cap) (n := cst (4 * cap) (nCb M l (some w) (some z) (some y)).2.length cap) (Nat.le_of_eq (by rw [Nat.zero_add]; exact cst_tr m12 h2A)) (Nat.le_of_eq (by rw [Nat.zero_add]; exact cst_trs m12 h2A)) ?_
    have w3 := w3.trans (cp_tr m12 h2A)
    subst w3
    have w4 : rpN (nCb M l (some w) (some z) (some y)).2 p2 q2 := w4
    refine lv_istore (lv' := [(5, .int (eO ((nCb M l (some w) (some z) (some y))).1)), (4, .int (eO ((nCa M l (some w) (some z))).1)), (0, .ref h), (1, .int (nI w)), (2, .int (nI z)), (3, .int (nI y))]) hx hb dX2_choose_24 hl (by decide) rfl (fun ls hl => ?_)
    refine lv_aload_n hx hb dX2_choose_26 rfl (lv_at hl 2 rfl) ?_
    refine lv_iload hx hb dX2_choose_27 (lv_at hl 1 rfl) ?_
    refine lv_iload hx hb dX2_choose_29 (lv_at hl 0 rfl) ?_
    refine x_calli (wc := [(h, .inr (2, [.ref d1, .ref d2, .int (nI (nCb M l (some w) (some z) (some y)).2.length), .int (nI (nGates (nCb M l (some w) (some z) (some y)).2)), .int (nI M)])), (d1, .inl (cyI, (cp (nCb M l (some w) (some z) (some y)).2.length cap), .inl p2)), (d2, .inl (cyI, (cp (nCb M l (some w) (some z) (some y)).2.length cap), .inl q2))]) (wr := []) (w2 := fun (u : Nat × Nat × Nat × (Nat → Int32) × (Nat → Int32)) => [(h, .inr (2, [.ref u.1, .ref u.2.1, .int (nI (nOr M (nCb M l (some w) (some z) (some y)).2 (nCa M l (some w) (some z)).1 (nCb M l (some w) (some z) (some y)).1).2.length), .int (nI (nGates (nOr M (nCb M l (some w) (some z) (some y)).2 (nCa M l (some w) (some z)).1 (nCb M l (some w) (some z) (some y)).1).2)), .int (nI M)])), (u.1, .inl (cyI, u.2.2.1, .inl u.2.2.2.1)), (u.2.1, .inl (cyI, u.2.2.1, .inl u.2.2.2.2))]) [0, 1, 2] [] [0, 1, 2] (va_runV (As := [.int (eO ((nCa M l (some w) (some z))).1), .int (eO ((nCb M l (some w) (some z) (some y))).1)]) (rest := []) ⟨hx, hb, hml, hown, hts⟩ (c_X2_or lch D cyI cyJ _ h d1 d2 (cp (nCb M l (some w) (some z) (some y)).2.length cap) p2 q2 M (nCb M l (some w) (some z) (some y)).2 (nCa M l (some w) (some z)).1 (nCb M l (some w) (some z) (some y)).1 k2.1 w4 k2.2.2.1 (le_cp (by omega)) (cp_16 hcap) (cp_lt hcap2) (by first | assumption | omega) v1 k2.2.1) (cwV 2 hts gX2_choose_X2_or rfl rfl rfl (by decide +kernel) ⟨Nat.le_of_ble_eq_true rfl, Nat.le_of_ble_eq_true rfl⟩) (x_preV hK hNN (hP.sub (ws' := [(h, .inr (2, [.ref d1, .ref d2, .int (nI (nCb M l (some w) (some z) (some y)).2.length), .int (nI (nGates (nCb M l (some w) (some z) (some y)).2)), .int (nI M)])), (d1, .inl (cyI, (cp (nCb M l (some w) (some z) (some y)).2.length cap), .inl p2)), (d2, .inl (cyI, (cp (nCb M l (some w) (some z) (some y)).2.length cap), .inl q2))]) [0, 1, 2] rfl) (hD.sub (ws' := [(h, .inr (2, [.ref d1, .ref d2, .int (nI (nCb M l (some w) (some z) (some y)).2.length), .int (nI (nGates (nCb M l (some w) (some z) (some y)).2)), .int (nI M)])), (d1, .inl (cyI, (cp (nCb M l (some w) (some z) (some y)).2.length cap), .inl p2)), (d2, .inl (cyI, (cp (nCb M l (some w) (some z) (some y)).2.length cap), .inl q2))]) [0, 1, 2] (by decide) rfl) rfl rfl (ci := 2) (q0 := 0) rfl rfl rfl) rfl rfl hl.1 rfl (lv_room (Nat.le_of_ble_eq_true rfl)) dX2_choose_31 ⟨by dsimp only; exact Nat.le_of_eq (cst_tr m23 h2B), by dsimp only; exact Nat.le_of_eq (cst_trs m23 h2B)⟩) rfl hP hD hS hA rfl rfl (by decide) (by decide) (fun _ => rfl) (by decide) (fun r31 u31 H locs hw31 hP hD hS hz31 => ?_)
    obtain ⟨g1, g2, cap3, p3, q3⟩ := u31
    have hP : va_P D vwCl [(h, .inr (2, [.ref g1, .ref g2, .int (nI (nOr M (nCb M l (some w) (some z) (some y)).2 (nCa M l (some w) (some z)).1 (nCb M l (some w) (some z) (some y)).1).2.length), .int (nI (nGates (nOr M (nCb M l (some w) (some z) (some y)).2 (nCa M l (some w) (some z)).1 (nCb M l (some w) (some z) (some y)).1).2)), .int (nI M)])), (g1, .inl (cyI, cap3, .inl p3)), (g2, .inl (cyI, cap3, .inl q3))] H := hP
    have hD : va_D A [(h, .inr (2, [.ref g1, .ref g2, .int (nI (nOr M (nCb M l (some w) (some z) (some y)).2 (nCa M l (some w) (some z)).1 (nCb M l (some w) (some z) (some y)).1).2.length), .int (nI (nGates (nOr M (nCb M l (some w) (some z) (some y)).2 (nCa M l (some w) (some z)).1 (nCb M l (some w) (some z) (some y)).1).2)), .int (nI M)])), (g1, .inl (cyI, cap3, .inl p3)), (g2, .inl (cyI, cap3, .inl q3))] := hD
    have hw31 : r31 = eO (nOr M (nCb M l (some w) (some z) (some y)).2 (nCa M l (some w) (some z)).1 (nCb M l (some w) (some z) (some y)).1).1 ∧ cap3 = cp (nOr M (nCb M l (some w) (some z) (some y)).2 (nCa M l (some w) (some z)).1 (nCb M l (some w) (some z) (some y)).1).2.length (cp (nCb M l (some w) (some z) (some y)).2.length cap) ∧ rpN (nOr M (nCb M l (some w) (some z) (some y)).2 (nCa M l (some w) (some z)).1 (nCb M l (some w) (some z) (some y)).1).2 p3 q3 := hw31
    obtain ⟨rfl, w5, w6⟩ := hw31
    refine W.widen (k := cst 2 (nCh M l (some w) (some z) (some y)).2.length cap) (n := cst (4 * cap) (nCh M l (some w) (some z) (some y)).2.length cap) (Nat.le_of_eq (cst_tr m23 h2B)) (Nat.le_of_eq (cst_trs m23 h2B)) ?_
    have w5 := w5.trans (cp_tr m23 h2B)
    subst w5
    have w6 : rpN (nCh M l (some w) (some z) (some y)).2 p3 q3 := w6
    exact x_iret hQ hAe hx hb hr hlocks (rfl) hS hK (Nat.le_refl _) (Nat.le_refl _) dX2_choose_34 (g1, g2, cp (nCh M l (some w) (some z) (some y)).2.length cap, p3, q3) hP hD (⟨rfl, rfl, w6⟩)
  · have c0 : (nCa M l (some w) (some z)).1 = none := Classical.byContradiction (fun z => c10 ((eO_ge hL1 k1.2.1).mpr z))
    refine lv_iconst (v := (-1)) hx hb dX2_choose_13 (by decide) ?_
    rw [c3_none c0] at hQ
    exact x_iret hQ hAe hx hb hr hlocks (rfl) hS hK (by rw [Nat.zero_add]; exact Nat.le_refl (cst 2 (nCa M l (some w) (some z)).2.length cap)) (by rw [Nat.zero_add]; exact Nat.le_refl (cst (4 * cap) (nCa M l (some w) (some z)).2.length cap)) dX2_choose_14 (b1, b2, cp (nCa M l (some w) (some z)).2.length cap, p1, q1) hP hD (⟨rfl, rfl, w2⟩)
