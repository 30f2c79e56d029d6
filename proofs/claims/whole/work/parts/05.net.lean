/-! the contracts of NetTwin$Net and NetTwin.not, by program (wip/whole/gen.py, spec_net.py) -/
theorem nAnd_l (M : Nat) (l : NT) (y : Option Nat) : nAnd M l none y = (none, l) := by cases y <;> rfl
theorem nAnd_r (M : Nat) (l : NT) (x : Option Nat) : nAnd M l x none = (none, l) := by cases x <;> rfl
theorem dO_no {n : Nat} {x : Int32} (h : ¬ (0 ≤ x ∧ x < nI (2 * n))) : dO n x = none := if_neg h
theorem nAnd_0 {M : Nat} {l : NT} {a b : Nat} (h : a = 0 ∨ b = 0 ∨ a = nNeg b) : nAnd M l (some a) (some b) = (some 0, l) := if_pos h
theorem nAnd_a {M : Nat} {l : NT} {a b : Nat} (h : ¬ (a = 0 ∨ b = 0 ∨ a = nNeg b)) (h2 : b = 1 ∨ a = b) : nAnd M l (some a) (some b) = (some a, l) := (if_neg h).trans (if_pos h2)
theorem nAnd_b {M : Nat} {l : NT} {a b : Nat} (h : ¬ (a = 0 ∨ b = 0 ∨ a = nNeg b)) (h2 : ¬ (b = 1 ∨ a = b)) (h3 : a = 1) : nAnd M l (some a) (some b) = (some b, l) := (if_neg h).trans ((if_neg h2).trans (if_pos h3))
theorem nAnd_g {M : Nat} {l : NT} {a b : Nat} (h : ¬ (a = 0 ∨ b = 0 ∨ a = nNeg b)) (h2 : ¬ (b = 1 ∨ a = b)) (h3 : ¬ a = 1) (h4 : a < b) : nAnd M l (some a) (some b) = nGate M l a b := by
  refine (if_neg h).trans ((if_neg h2).trans ((if_neg h3).trans ?_))
  rw [Nat.min_eq_left (by omega), Nat.max_eq_right (by omega)]
theorem nAnd_h {M : Nat} {l : NT} {a b : Nat} (h : ¬ (a = 0 ∨ b = 0 ∨ a = nNeg b)) (h2 : ¬ (b = 1 ∨ a = b)) (h3 : ¬ a = 1) (h4 : b < a) : nAnd M l (some a) (some b) = nGate M l b a := by
  refine (if_neg h).trans ((if_neg h2).trans ((if_neg h3).trans ?_))
  rw [Nat.min_eq_right (by omega), Nat.max_eq_left (by omega)]
theorem nGate_f {M : Nat} {l : NT} {a b k : Nat} (h : nFind l a b = some k) : nGate M l a b = (some (2 * k), l) := by simp [nGate, h]
theorem nGate_o {M : Nat} {l : NT} {a b : Nat} (h : nFind l a b = none) (h2 : nGates l = M) : nGate M l a b = (none, l) := by simp [nGate, h, h2]
theorem nGate_n {M : Nat} {l : NT} {a b : Nat} (h : nFind l a b = none) (h2 : ¬ nGates l = M) : nGate M l a b = (some (2 * l.length), l ++ [some (a, b)]) := by simp [nGate, h, h2]
theorem gL_yes {g : Option (Nat × Nat)} (h : ¬ gL g = -1) : ∃ a b, g = some (a, b) := by
  cases g with
  | none => exact absurd rfl h
  | some q => exact ⟨q.1, q.2, rfl⟩
theorem gL_no {l : NT} {k : Nat} (hok : nOK l) (hk : k < 100000) (h : gL (nAt l k) = -1) : nAt l k = none := by
  cases e : nAt l k with
  | none => rfl
  | some q =>
    have h3 := hok.2.2 k q.1 q.2 e
    rw [e] at h
    exact absurd h (n_m1 (a := q.1) (by omega))
theorem g_is {l : NT} {k a b : Nat} (hok : nOK l) (hk : k < 100000) (ha : a < 2 ^ 31) (hb : b < 2 ^ 31) (h1 : gL (nAt l k) = nI a) (h2 : gR (nAt l k) = nI b) : nAt l k = some (a, b) := by
  cases e : nAt l k with
  | none =>
    rw [e] at h1
    exact absurd h1.symm (n_m1 ha)
  | some q =>
    have h3 := hok.2.2 k q.1 q.2 e
    rw [e] at h1 h2
    have e1 := (nI_eq (a := q.1) (by omega) ha).mp h1
    have e2 := (nI_eq (a := q.2) (by omega) hb).mp h2
    rw [← e1, ← e2]
theorem sprd_n {l : NT} {w : Nat → Int64} {k : Nat} (h : nAt l k = none) : sprd l w (k + 1) = sprd l w k := by simp only [sprd, h]
theorem sprd_g {l : NT} {w : Nat → Int64} {k a b : Nat} (h : nAt l k = some (a, b)) : sprd l w (k + 1) = vp_updL (sprd l w k) k (litW (sprd l w k) a &&& litW (sprd l w k) b) := by simp only [sprd, h]
set_option maxHeartbeats 4000000 in
set_option maxRecDepth 100000 in
theorem c_X1_not (lch : Launch) (D : va_G) (cyI cyJ : ClassId) (sz : Nat) (x : Int32)  : Met lch yX1_not wsX1_not ({ frames := 0, cells := 0, slots := 0, locals := 0 } : Room) (va_Pc [.int x] (xA D (xTy cyI cyJ) sz [])) (va_Qi (fun (r : Int32) (u : Unit) => r = notI x) (fun (u : Unit) t => xB D (xTy cyI cyJ) sz [] [] t) (va_A [] sz)) 0 0 (va_A [] sz) := by
  refine x_met RX1 (by decide) rfl rfl (Nat.le_of_ble_eq_true rfl) ?_
  intro p e s m below meth c A Q hAe hQ hx hb hr hlocks hml hnm hts hown hNN hK hsz hP hD hS hA ls hl
  have hP : va_P D vwCl [] s.heap := hP
  have hD : va_D A [] := hD
  have hl : lv_has ls 1 [(0, .int x)] := hl
  refine lv_iload_n hx hb dX1_not_0 rfl (lv_at hl 0 rfl) ?_
  refine lv_iconst (v := (-1)) hx hb dX1_not_1 (by decide) ?_
  refine lv_icmp_ne (tgt := 9) hx hb dX1_not_2 (by decide) (fun c2 => ?_) (fun c2 => ?_)
  · refine lv_iload_n hx hb dX1_not_9 rfl (lv_at hl 0 rfl) ?_
    refine lv_iconst (v := nI 1) hx hb dX1_not_10 (by decide) ?_
    refine lv_ixor hx hb dX1_not_11 ?_
    refine x_top (show x ^^^ nI 1 = notI x from by rw [notI, if_neg c2]) ?_
    exact x_iret hQ hAe hx hb hr hlocks (rfl) hS hK (Nat.le_of_ble_eq_true rfl) (Nat.le_of_ble_eq_true rfl) dX1_not_12 () hP hD (rfl)
  · refine lv_iconst (v := (-1)) hx hb dX1_not_5 (by decide) ?_
    refine lv_goto (tgt := 12) hx hb dX1_not_6 (by decide) ?_
    refine x_top (show (-1) = notI x from by rw [notI, if_pos c2]) ?_
    exact x_iret hQ hAe hx hb hr hlocks (rfl) hS hK (Nat.le_of_ble_eq_true rfl) (Nat.le_of_ble_eq_true rfl) dX1_not_12 () hP hD (rfl)
set_option maxHeartbeats 4000000 in
set_option maxRecDepth 100000 in
theorem c_X0_init (lch : Launch) (D : va_G) (cyI cyJ : ClassId) (sz : Nat) (h : Nat) (M1 : Nat) (M2 : Nat) (hMM : M1 + M2 < 10000) : Met lch yX0_init wsX0_init ({ frames := 1, cells := 4, slots := 1 + M1 + M2 + (1 + M1 + M2) + M1 + (1 + M1 + M2), locals := 12 } : Room) (va_Pc [.ref h, .int (nI M1), .int (nI M2)] (xA D (xTy cyI cyJ) sz [(h, .inr (0, [.int 0, .int 0, .null, .null, .null, .null, .int 0, .int 0]))])) (va_Qv (fun (u : Nat × Nat × Nat × Nat) => True) (fun (u : Nat × Nat × Nat × Nat) t => xB D (xTy cyI cyJ) sz [(h, .inr (0, [.int 0, .int 0, .null, .null, .null, .null, .int 0, .int 0]))] [(h, .inr (0, [.int (nI M1), .int (nI M2), .ref u.1, .ref u.2.1, .ref u.2.2.1, .ref u.2.2.2, .int (nI 1), .int (nI 0)])), (u.1, .inl (cyI, (1 + M1 + M2), .inl (upd (fun _ => 0) 0 (-1)))), (u.2.1, .inl (cyI, (1 + M1 + M2), .inl (upd (fun _ => 0) 0 (-1)))), (u.2.2.1, .inl (cyI, M1, .inl (fun _ => 0))), (u.2.2.2, .inl (cyJ, (1 + M1 + M2), .inr (.inl (fun _ => 0))))] t) (va_A [(h, .inr (0, [.int 0, .int 0, .null, .null, .null, .null, .int 0, .int 0]))] sz)) 4 (1 + M1 + M2 + (1 + M1 + M2) + M1 + (1 + M1 + M2)) (va_A [(h, .inr (0, [.int 0, .int 0, .null, .null, .null, .null, .int 0, .int 0]))] sz) := by
  refine x_met RX0 (by decide) rfl rfl (Nat.le_of_ble_eq_true rfl) ?_
  intro p e s m below meth c A Q hAe hQ hx hb hr hlocks hml hnm hts hown hNN hK hsz hP hD hS hA ls hl
  have wo1 := hts (.methodLink RX0 3 objectInit) (by decide +kernel)
  have wo2 := hts (.instanceMethod objectInit) (by decide +kernel)
  have wo3 := hts (.code objectInit ⟨#[0xb1]⟩ 1 none) (by decide +kernel)
  have wf9 := hts (.fieldLink RX0 9 "NetTwin$Net" "mostInputs" "I") (by decide +kernel)
  have hiX0 : ∀ w ∈ u_ws RX0 TX0 8, w ∈ wsX0_init := by decide +kernel
  have wf15 := hts (.fieldLink RX0 15 "NetTwin$Net" "mostGates" "I") (by decide +kernel)
  have waint := hts (.arrayClass .int) (by decide +kernel)
  have wf18 := hts (.fieldLink RX0 18 "NetTwin$Net" "lesser" "[I") (by decide +kernel)
  have wf22 := hts (.fieldLink RX0 22 "NetTwin$Net" "other" "[I") (by decide +kernel)
  have wf25 := hts (.fieldLink RX0 25 "NetTwin$Net" "inputNode" "[I") (by decide +kernel)
  have walong := hts (.arrayClass .long) (by decide +kernel)
  have wf28 := hts (.fieldLink RX0 28 "NetTwin$Net" "word" "[J") (by decide +kernel)
  have wf32 := hts (.fieldLink RX0 32 "NetTwin$Net" "nodeCount" "I") (by decide +kernel)
  have hP : va_P D vwCl [(h, .inr (0, [.int 0, .int 0, .null, .null, .null, .null, .int 0, .int 0]))] s.heap := hP
  have hD : va_D A [(h, .inr (0, [.int 0, .int 0, .null, .null, .null, .null, .int 0, .int 0]))] := hD
  have hl : lv_has ls 3 [(0, .ref h), (1, .int (nI M1)), (2, .int (nI M2))] := hl
  refine lv_aload_n hx hb dX0_init_0 rfl (lv_at hl 0 rfl) ?_
  refine W.objInit hx hb hown wo1 wo2 wo3 rfl (hl.1.trans hml.symm) rfl dX0_init_1 (Nat.le_of_ble_eq_true rfl) (Nat.le_of_ble_eq_true rfl) ?_
  refine lv_aload_n hx hb dX0_init_4 rfl (lv_at hl 0 rfl) ?_
  refine lv_iload_n hx hb dX0_init_5 rfl (lv_at hl 1 rfl) ?_
  refine va_putF (D := D) (ci := 0) (v := .int (nI M1)) (ty := .int) (C := RX0) (T := TX0) (N := 8) hx hb hts hiX0 tyX0 tyX0_ok nmX0 hown hK hP hD hS 0 rfl rfl 0 (by decide) wf9 (fun _ h9 => h9) rfl hnm rfl (by decide +kernel) rfl rfl (Nat.le_of_ble_eq_true rfl) dX0_init_6 (fun H locs hP hD hS => ?_)
  have hP : va_P D vwCl [(h, .inr (0, [.int (nI M1), .int 0, .null, .null, .null, .null, .int 0, .int 0]))] H := hP
  have hD : va_D A [(h, .inr (0, [.int (nI M1), .int 0, .null, .null, .null, .null, .int 0, .int 0]))] := hD
  refine lv_aload_n hx hb dX0_init_9 rfl (lv_at hl 0 rfl) ?_
  refine lv_iload_n hx hb dX0_init_10 rfl (lv_at hl 2 rfl) ?_
  refine va_putF (D := D) (ci := 0) (v := .int (nI M2)) (ty := .int) (C := RX0) (T := TX0) (N := 8) hx hb hts hiX0 tyX0 tyX0_ok nmX0 hown hK hP hD hS 0 rfl rfl 1 (by decide) wf15 (fun _ h9 => h9) rfl hnm rfl (by decide +kernel) rfl rfl (Nat.le_of_ble_eq_true rfl) dX0_init_11 (fun H locs hP hD hS => ?_)
  have hP : va_P D vwCl [(h, .inr (0, [.int (nI M1), .int (nI M2), .null, .null, .null, .null, .int 0, .int 0]))] H := hP
  have hD : va_D A [(h, .inr (0, [.int (nI M1), .int (nI M2), .null, .null, .null, .null, .int 0, .int 0]))] := hD
  refine lv_aload_n hx hb dX0_init_14 rfl (lv_at hl 0 rfl) ?_
  refine lv_iconst (v := nI 1) hx hb dX0_init_15 (by decide) ?_
  refine lv_iload_n hx hb dX0_init_16 rfl (lv_at hl 1 rfl) ?_
  refine lv_iadd hx hb dX0_init_17 ?_
  refine x_top (nI_add _ _) ?_
  refine lv_iload_n hx hb dX0_init_18 rfl (lv_at hl 2 rfl) ?_
  refine lv_iadd hx hb dX0_init_19 ?_
  refine x_top (nI_add _ _) ?_
  refine x_newai hx hb waint hK hP hD hS hA (by omega) (Nat.le_of_ble_eq_true rfl) (by dsimp only; omega) dX0_init_20 (fun q20 H hP hD hS => ?_)
  have hP : va_P D vwCl [(h, .inr (0, [.int (nI M1), .int (nI M2), .null, .null, .null, .null, .int 0, .int 0])), (q20, .inl (cyI, (1 + M1 + M2), .inl (fun _ => 0)))] H := hP
  have hD : va_D A [(h, .inr (0, [.int (nI M1), .int (nI M2), .null, .null, .null, .null, .int 0, .int 0])), (q20, .inl (cyI, (1 + M1 + M2), .inl (fun _ => 0)))] := hD
  refine va_putF (D := D) (ci := 0) (v := .ref q20) (ty := .array .int) (C := RX0) (T := TX0) (N := 8) hx hb hts hiX0 tyX0 tyX0_ok nmX0 hown hK hP hD hS 0 rfl rfl 2 (by decide) wf18 (fun _ h9 => h9) rfl hnm rfl (by decide +kernel) rfl rfl (Nat.le_of_ble_eq_true rfl) dX0_init_22 (fun H locs hP hD hS => ?_)
  have hP : va_P D vwCl [(h, .inr (0, [.int (nI M1), .int (nI M2), .ref q20, .null, .null, .null, .int 0, .int 0])), (q20, .inl (cyI, (1 + M1 + M2), .inl (fun _ => 0)))] H := hP
  have hD : va_D A [(h, .inr (0, [.int (nI M1), .int (nI M2), .ref q20, .null, .null, .null, .int 0, .int 0])), (q20, .inl (cyI, (1 + M1 + M2), .inl (fun _ => 0)))] := hD
  refine lv_aload_n hx hb dX0_init_25 rfl (lv_at hl 0 rfl) ?_
  refine lv_iconst (v := nI 1) hx hb dX0_init_26 (by decide) ?_
  refine lv_iload_n hx hb dX0_init_27 rfl (lv_at hl 1 rfl) ?_
  refine lv_iadd hx hb dX0_init_28 ?_
  refine x_top (nI_add _ _) ?_
  refine lv_iload_n hx hb dX0_init_29 rfl (lv_at hl 2 rfl) ?_
  refine lv_iadd hx hb dX0_init_30 ?_
  refine x_top (nI_add _ _) ?_
  refine x_newai hx hb waint hK hP hD hS hA (by omega) (Nat.le_of_ble_eq_true rfl) (by dsimp only; omega) dX0_init_31 (fun q31 H hP hD hS => ?_)
  have hP : va_P D vwCl [(h, .inr (0, [.int (nI M1), .int (nI M2), .ref q20, .null, .null, .null, .int 0, .int 0])), (q20, .inl (cyI, (1 + M1 + M2), .inl (fun _ => 0))), (q31, .inl (cyI, (1 + M1 + M2), .inl (fun _ => 0)))] H := hP
  have hD : va_D A [(h, .inr (0, [.int (nI M1), .int (nI M2), .ref q20, .null, .null, .null, .int 0, .int 0])), (q20, .inl (cyI, (1 + M1 + M2), .inl (fun _ => 0))), (q31, .inl (cyI, (1 + M1 + M2), .inl (fun _ => 0)))] := hD
  refine va_putF (D := D) (ci := 0) (v := .ref q31) (ty := .array .int) (C := RX0) (T := TX0) (N := 8) hx hb hts hiX0 tyX0 tyX0_ok nmX0 hown hK hP hD hS 0 rfl rfl 3 (by decide) wf22 (fun _ h9 => h9) rfl hnm rfl (by decide +kernel) rfl rfl (Nat.le_of_ble_eq_true rfl) dX0_init_33 (fun H locs hP hD hS => ?_)
  have hP : va_P D vwCl [(h, .inr (0, [.int (nI M1), .int (nI M2), .ref q20, .ref q31, .null, .null, .int 0, .int 0])), (q20, .inl (cyI, (1 + M1 + M2), .inl (fun _ => 0))), (q31, .inl (cyI, (1 + M1 + M2), .inl (fun _ => 0)))] H := hP
  have hD : va_D A [(h, .inr (0, [.int (nI M1), .int (nI M2), .ref q20, .ref q31, .null, .null, .int 0, .int 0])), (q20, .inl (cyI, (1 + M1 + M2), .inl (fun _ => 0))), (q31, .inl (cyI, (1 + M1 + M2), .inl (fun _ => 0)))] := hD
  refine lv_aload_n hx hb dX0_init_36 rfl (lv_at hl 0 rfl) ?_
  refine lv_iload_n hx hb dX0_init_37 rfl (lv_at hl 1 rfl) ?_
  refine x_newai hx hb waint hK hP hD hS hA (by omega) (Nat.le_of_ble_eq_true rfl) (by dsimp only; omega) dX0_init_38 (fun q38 H hP hD hS => ?_)
  have hP : va_P D vwCl [(h, .inr (0, [.int (nI M1), .int (nI M2), .ref q20, .ref q31, .null, .null, .int 0, .int 0])), (q20, .inl (cyI, (1 + M1 + M2), .inl (fun _ => 0))), (q31, .inl (cyI, (1 + M1 + M2), .inl (fun _ => 0))), (q38, .inl (cyI, M1, .inl (fun _ => 0)))] H := hP
  have hD : va_D A [(h, .inr (0, [.int (nI M1), .int (nI M2), .ref q20, .ref q31, .null, .null, .int 0, .int 0])), (q20, .inl (cyI, (1 + M1 + M2), .inl (fun _ => 0))), (q31, .inl (cyI, (1 + M1 + M2), .inl (fun _ => 0))), (q38, .inl (cyI, M1, .inl (fun _ => 0)))] := hD
  refine va_putF (D := D) (ci := 0) (v := .ref q38) (ty := .array .int) (C := RX0) (T := TX0) (N := 8) hx hb hts hiX0 tyX0 tyX0_ok nmX0 hown hK hP hD hS 0 rfl rfl 4 (by decide) wf25 (fun _ h9 => h9) rfl hnm rfl (by decide +kernel) rfl rfl (Nat.le_of_ble_eq_true rfl) dX0_init_40 (fun H locs hP hD hS => ?_)
  have hP : va_P D vwCl [(h, .inr (0, [.int (nI M1), .int (nI M2), .ref q20, .ref q31, .ref q38, .null, .int 0, .int 0])), (q20, .inl (cyI, (1 + M1 + M2), .inl (fun _ => 0))), (q31, .inl (cyI, (1 + M1 + M2), .inl (fun _ => 0))), (q38, .inl (cyI, M1, .inl (fun _ => 0)))] H := hP
  have hD : va_D A [(h, .inr (0, [.int (nI M1), .int (nI M2), .ref q20, .ref q31, .ref q38, .null, .int 0, .int 0])), (q20, .inl (cyI, (1 + M1 + M2), .inl (fun _ => 0))), (q31, .inl (cyI, (1 + M1 + M2), .inl (fun _ => 0))), (q38, .inl (cyI, M1, .inl (fun _ => 0)))] := hD
  refine lv_aload_n hx hb dX0_init_43 rfl (lv_at hl 0 rfl) ?_
  refine lv_iconst (v := nI 1) hx hb dX0_init_44 (by decide) ?_
  refine lv_iload_n hx hb dX0_init_45 rfl (lv_at hl 1 rfl) ?_
  refine lv_iadd hx hb dX0_init_46 ?_
  refine x_top (nI_add _ _) ?_
  refine lv_iload_n hx hb dX0_init_47 rfl (lv_at hl 2 rfl) ?_
  refine lv_iadd hx hb dX0_init_48 ?_
  refine x_top (nI_add _ _) ?_
  refine x_newal hx hb walong hK hP hD hS hA (by omega) (Nat.le_of_ble_eq_true rfl) (by dsimp only; omega) dX0_init_49 (fun q49 H hP hD hS => ?_)
  have hP : va_P D vwCl [(h, .inr (0, [.int (nI M1), .int (nI M2), .ref q20, .ref q31, .ref q38, .null, .int 0, .int 0])), (q20, .inl (cyI, (1 + M1 + M2), .inl (fun _ => 0))), (q31, .inl (cyI, (1 + M1 + M2), .inl (fun _ => 0))), (q38, .inl (cyI, M1, .inl (fun _ => 0))), (q49, .inl (cyJ, (1 + M1 + M2), .inr (.inl (fun _ => 0))))] H := hP
  have hD : va_D A [(h, .inr (0, [.int (nI M1), .int (nI M2), .ref q20, .ref q31, .ref q38, .null, .int 0, .int 0])), (q20, .inl (cyI, (1 + M1 + M2), .inl (fun _ => 0))), (q31, .inl (cyI, (1 + M1 + M2), .inl (fun _ => 0))), (q38, .inl (cyI, M1, .inl (fun _ => 0))), (q49, .inl (cyJ, (1 + M1 + M2), .inr (.inl (fun _ => 0))))] := hD
  refine va_putF (D := D) (ci := 0) (v := .ref q49) (ty := .array .long) (C := RX0) (T := TX0) (N := 8) hx hb hts hiX0 tyX0 tyX0_ok nmX0 hown hK hP hD hS 0 rfl rfl 5 (by decide) wf28 (fun _ h9 => h9) rfl hnm rfl (by decide +kernel) rfl rfl (Nat.le_of_ble_eq_true rfl) dX0_init_51 (fun H locs hP hD hS => ?_)
  have hP : va_P D vwCl [(h, .inr (0, [.int (nI M1), .int (nI M2), .ref q20, .ref q31, .ref q38, .ref q49, .int 0, .int 0])), (q20, .inl (cyI, (1 + M1 + M2), .inl (fun _ => 0))), (q31, .inl (cyI, (1 + M1 + M2), .inl (fun _ => 0))), (q38, .inl (cyI, M1, .inl (fun _ => 0))), (q49, .inl (cyJ, (1 + M1 + M2), .inr (.inl (fun _ => 0))))] H := hP
  have hD : va_D A [(h, .inr (0, [.int (nI M1), .int (nI M2), .ref q20, .ref q31, .ref q38, .ref q49, .int 0, .int 0])), (q20, .inl (cyI, (1 + M1 + M2), .inl (fun _ => 0))), (q31, .inl (cyI, (1 + M1 + M2), .inl (fun _ => 0))), (q38, .inl (cyI, M1, .inl (fun _ => 0))), (q49, .inl (cyJ, (1 + M1 + M2), .inr (.inl (fun _ => 0))))] := hD
  refine lv_aload_n hx hb dX0_init_54 rfl (lv_at hl 0 rfl) ?_
  refine va_get (D := D) (ci := 0) (v := .ref q20) (C := RX0) (T := TX0) (N := 8) hx hb hts hiX0 hown hK hP 0 rfl rfl 2 (by decide) wf18 (fun _ h9 => h9) rfl dX0_init_55 ?_
  refine lv_iconst (v := nI 0) hx hb dX0_init_58 (by decide) ?_
  refine lv_iconst (v := (-1)) hx hb dX0_init_59 (by decide) ?_
  refine x_iast hx hb hK hP hD hS 1 0 rfl rfl (by omega) (by omega) dX0_init_60 (fun H locs hP hD hS => ?_)
  have hP : va_P D vwCl [(h, .inr (0, [.int (nI M1), .int (nI M2), .ref q20, .ref q31, .ref q38, .ref q49, .int 0, .int 0])), (q20, .inl (cyI, (1 + M1 + M2), .inl (upd (fun _ => 0) 0 (-1)))), (q31, .inl (cyI, (1 + M1 + M2), .inl (fun _ => 0))), (q38, .inl (cyI, M1, .inl (fun _ => 0))), (q49, .inl (cyJ, (1 + M1 + M2), .inr (.inl (fun _ => 0))))] H := hP
  have hD : va_D A [(h, .inr (0, [.int (nI M1), .int (nI M2), .ref q20, .ref q31, .ref q38, .ref q49, .int 0, .int 0])), (q20, .inl (cyI, (1 + M1 + M2), .inl (upd (fun _ => 0) 0 (-1)))), (q31, .inl (cyI, (1 + M1 + M2), .inl (fun _ => 0))), (q38, .inl (cyI, M1, .inl (fun _ => 0))), (q49, .inl (cyJ, (1 + M1 + M2), .inr (.inl (fun _ => 0))))] := hD
  refine lv_aload_n hx hb dX0_init_61 rfl (lv_at hl 0 rfl) ?_
  refine va_get (D := D) (ci := 0) (v := .ref q31) (C := RX0) (T := TX0) (N := 8) hx hb hts hiX0 hown hK hP 0 rfl rfl 3 (by decide) wf22 (fun _ h9 => h9) rfl dX0_init_62 ?_
  refine lv_iconst (v := nI 0) hx hb dX0_init_65 (by decide) ?_
  refine lv_iconst (v := (-1)) hx hb dX0_init_66 (by decide) ?_
  refine x_iast hx hb hK hP hD hS 2 0 rfl rfl (by omega) (by omega) dX0_init_67 (fun H locs hP hD hS => ?_)
  have hP : va_P D vwCl [(h, .inr (0, [.int (nI M1), .int (nI M2), .ref q20, .ref q31, .ref q38, .ref q49, .int 0, .int 0])), (q20, .inl (cyI, (1 + M1 + M2), .inl (upd (fun _ => 0) 0 (-1)))), (q31, .inl (cyI, (1 + M1 + M2), .inl (upd (fun _ => 0) 0 (-1)))), (q38, .inl (cyI, M1, .inl (fun _ => 0))), (q49, .inl (cyJ, (1 + M1 + M2), .inr (.inl (fun _ => 0))))] H := hP
  have hD : va_D A [(h, .inr (0, [.int (nI M1), .int (nI M2), .ref q20, .ref q31, .ref q38, .ref q49, .int 0, .int 0])), (q20, .inl (cyI, (1 + M1 + M2), .inl (upd (fun _ => 0) 0 (-1)))), (q31, .inl (cyI, (1 + M1 + M2), .inl (upd (fun _ => 0) 0 (-1)))), (q38, .inl (cyI, M1, .inl (fun _ => 0))), (q49, .inl (cyJ, (1 + M1 + M2), .inr (.inl (fun _ => 0))))] := hD
  refine lv_aload_n hx hb dX0_init_68 rfl (lv_at hl 0 rfl) ?_
  refine lv_iconst (v := nI 1) hx hb dX0_init_69 (by decide) ?_
  refine va_put (D := D) (ci := 0) (v := .int (nI 1)) (ty := .int) (C := RX0) (T := TX0) (N := 8) hx hb hts hiX0 tyX0 tyX0_ok nmX0 hown hK hP hD hS 0 rfl rfl 6 (by decide) wf32 (fun _ h9 => h9) rfl (by decide +kernel) rfl rfl (Nat.le_of_ble_eq_true rfl) dX0_init_70 (fun H locs hP hD hS => ?_)
  have hP : va_P D vwCl [(h, .inr (0, [.int (nI M1), .int (nI M2), .ref q20, .ref q31, .ref q38, .ref q49, .int (nI 1), .int 0])), (q20, .inl (cyI, (1 + M1 + M2), .inl (upd (fun _ => 0) 0 (-1)))), (q31, .inl (cyI, (1 + M1 + M2), .inl (upd (fun _ => 0) 0 (-1)))), (q38, .inl (cyI, M1, .inl (fun _ => 0))), (q49, .inl (cyJ, (1 + M1 + M2), .inr (.inl (fun _ => 0))))] H := hP
  have hD : va_D A [(h, .inr (0, [.int (nI M1), .int (nI M2), .ref q20, .ref q31, .ref q38, .ref q49, .int (nI 1), .int 0])), (q20, .inl (cyI, (1 + M1 + M2), .inl (upd (fun _ => 0) 0 (-1)))), (q31, .inl (cyI, (1 + M1 + M2), .inl (upd (fun _ => 0) 0 (-1)))), (q38, .inl (cyI, M1, .inl (fun _ => 0))), (q49, .inl (cyJ, (1 + M1 + M2), .inr (.inl (fun _ => 0))))] := hD
  exact x_vret hQ hAe hx hb hr hlocks hS hK (Nat.le_of_ble_eq_true rfl) (by omega) dX0_init_73 (q20, q31, q38, q49) hP hD (trivial)
set_option maxHeartbeats 4000000 in
set_option maxRecDepth 100000 in
theorem c_X0_clear (lch : Launch) (D : va_G) (cyI cyJ : ClassId) (sz : Nat) (h : Nat) (a1 : Nat) (a2 : Nat) (a3 : Nat) (a4 : Nat) (M1 : Nat) (M2 : Nat) (lf : Nat → Int32) (of : Nat → Int32) (nf : Nat → Int32) (wf : Nat → Int64) (nc : Nat) (ic : Nat)  : Met lch yX0_clear wsX0_clear ({ frames := 0, cells := 0, slots := 0, locals := 0 } : Room) (va_Pc [.ref h] (xA D (xTy cyI cyJ) sz [(h, .inr (0, [.int (nI M1), .int (nI M2), .ref a1, .ref a2, .ref a3, .ref a4, .int (nI nc), .int (nI ic)])), (a1, .inl (cyI, (1 + M1 + M2), .inl lf)), (a2, .inl (cyI, (1 + M1 + M2), .inl of)), (a3, .inl (cyI, M1, .inl nf)), (a4, .inl (cyJ, (1 + M1 + M2), .inr (.inl wf)))])) (va_Qv (fun (u : Unit) => True) (fun (u : Unit) t => xB D (xTy cyI cyJ) sz [(h, .inr (0, [.int (nI M1), .int (nI M2), .ref a1, .ref a2, .ref a3, .ref a4, .int (nI nc), .int (nI ic)])), (a1, .inl (cyI, (1 + M1 + M2), .inl lf)), (a2, .inl (cyI, (1 + M1 + M2), .inl of)), (a3, .inl (cyI, M1, .inl nf)), (a4, .inl (cyJ, (1 + M1 + M2), .inr (.inl wf)))] [(h, .inr (0, [.int (nI M1), .int (nI M2), .ref a1, .ref a2, .ref a3, .ref a4, .int (nI 1), .int (nI 0)])), (a1, .inl (cyI, (1 + M1 + M2), .inl lf)), (a2, .inl (cyI, (1 + M1 + M2), .inl of)), (a3, .inl (cyI, M1, .inl nf)), (a4, .inl (cyJ, (1 + M1 + M2), .inr (.inl wf)))] t) (va_A [(h, .inr (0, [.int (nI M1), .int (nI M2), .ref a1, .ref a2, .ref a3, .ref a4, .int (nI nc), .int (nI ic)])), (a1, .inl (cyI, (1 + M1 + M2), .inl lf)), (a2, .inl (cyI, (1 + M1 + M2), .inl of)), (a3, .inl (cyI, M1, .inl nf)), (a4, .inl (cyJ, (1 + M1 + M2), .inr (.inl wf)))] sz)) 0 0 (va_A [(h, .inr (0, [.int (nI M1), .int (nI M2), .ref a1, .ref a2, .ref a3, .ref a4, .int (nI nc), .int (nI ic)])), (a1, .inl (cyI, (1 + M1 + M2), .inl lf)), (a2, .inl (cyI, (1 + M1 + M2), .inl of)), (a3, .inl (cyI, M1, .inl nf)), (a4, .inl (cyJ, (1 + M1 + M2), .inr (.inl wf)))] sz) := by
  refine x_met RX0 (by decide) rfl rfl (Nat.le_of_ble_eq_true rfl) ?_
  intro p e s m below meth c A Q hAe hQ hx hb hr hlocks hml hnm hts hown hNN hK hsz hP hD hS hA ls hl
  have wf32 := hts (.fieldLink RX0 32 "NetTwin$Net" "nodeCount" "I") (by decide +kernel)
  have hiX0 : ∀ w ∈ u_ws RX0 TX0 8, w ∈ wsX0_clear := by decide +kernel
  have wf35 := hts (.fieldLink RX0 35 "NetTwin$Net" "inputCount" "I") (by decide +kernel)
  have hP : va_P D vwCl [(h, .inr (0, [.int (nI M1), .int (nI M2), .ref a1, .ref a2, .ref a3, .ref a4, .int (nI nc), .int (nI ic)])), (a1, .inl (cyI, (1 + M1 + M2), .inl lf)), (a2, .inl (cyI, (1 + M1 + M2), .inl of)), (a3, .inl (cyI, M1, .inl nf)), (a4, .inl (cyJ, (1 + M1 + M2), .inr (.inl wf)))] s.heap := hP
  have hD : va_D A [(h, .inr (0, [.int (nI M1), .int (nI M2), .ref a1, .ref a2, .ref a3, .ref a4, .int (nI nc), .int (nI ic)])), (a1, .inl (cyI, (1 + M1 + M2), .inl lf)), (a2, .inl (cyI, (1 + M1 + M2), .inl of)), (a3, .inl (cyI, M1, .inl nf)), (a4, .inl (cyJ, (1 + M1 + M2), .inr (.inl wf)))] := hD
  have hl : lv_has ls 1 [(0, .ref h)] := hl
  refine lv_aload_n hx hb dX0_clear_0 rfl (lv_at hl 0 rfl) ?_
  refine lv_iconst (v := nI 1) hx hb dX0_clear_1 (by decide) ?_
  refine va_put (D := D) (ci := 0) (v := .int (nI 1)) (ty := .int) (C := RX0) (T := TX0) (N := 8) hx hb hts hiX0 tyX0 tyX0_ok nmX0 hown hK hP hD hS 0 rfl rfl 6 (by decide) wf32 (fun _ h9 => h9) rfl (by decide +kernel) rfl rfl (Nat.le_of_ble_eq_true rfl) dX0_clear_2 (fun H locs hP hD hS => ?_)
  have hP : va_P D vwCl [(h, .inr (0, [.int (nI M1), .int (nI M2), .ref a1, .ref a2, .ref a3, .ref a4, .int (nI 1), .int (nI ic)])), (a1, .inl (cyI, (1 + M1 + M2), .inl lf)), (a2, .inl (cyI, (1 + M1 + M2), .inl of)), (a3, .inl (cyI, M1, .inl nf)), (a4, .inl (cyJ, (1 + M1 + M2), .inr (.inl wf)))] H := hP
  have hD : va_D A [(h, .inr (0, [.int (nI M1), .int (nI M2), .ref a1, .ref a2, .ref a3, .ref a4, .int (nI 1), .int (nI ic)])), (a1, .inl (cyI, (1 + M1 + M2), .inl lf)), (a2, .inl (cyI, (1 + M1 + M2), .inl of)), (a3, .inl (cyI, M1, .inl nf)), (a4, .inl (cyJ, (1 + M1 + M2), .inr (.inl wf)))] := hD
  refine lv_aload_n hx hb dX0_clear_5 rfl (lv_at hl 0 rfl) ?_
  refine lv_iconst (v := nI 0) hx hb dX0_clear_6 (by decide) ?_
  refine va_put (D := D) (ci := 0) (v := .int (nI 0)) (ty := .int) (C := RX0) (T := TX0) (N := 8) hx hb hts hiX0 tyX0 tyX0_ok nmX0 hown hK hP hD hS 0 rfl rfl 7 (by decide) wf35 (fun _ h9 => h9) rfl (by decide +kernel) rfl rfl (Nat.le_of_ble_eq_true rfl) dX0_clear_7 (fun H locs hP hD hS => ?_)
  have hP : va_P D vwCl [(h, .inr (0, [.int (nI M1), .int (nI M2), .ref a1, .ref a2, .ref a3, .ref a4, .int (nI 1), .int (nI 0)])), (a1, .inl (cyI, (1 + M1 + M2), .inl lf)), (a2, .inl (cyI, (1 + M1 + M2), .inl of)), (a3, .inl (cyI, M1, .inl nf)), (a4, .inl (cyJ, (1 + M1 + M2), .inr (.inl wf)))] H := hP
  have hD : va_D A [(h, .inr (0, [.int (nI M1), .int (nI M2), .ref a1, .ref a2, .ref a3, .ref a4, .int (nI 1), .int (nI 0)])), (a1, .inl (cyI, (1 + M1 + M2), .inl lf)), (a2, .inl (cyI, (1 + M1 + M2), .inl of)), (a3, .inl (cyI, M1, .inl nf)), (a4, .inl (cyJ, (1 + M1 + M2), .inr (.inl wf)))] := hD
  exact x_vret hQ hAe hx hb hr hlocks hS hK (Nat.le_of_ble_eq_true rfl) (Nat.le_of_ble_eq_true rfl) dX0_clear_10 () hP hD (trivial)
set_option maxHeartbeats 4000000 in
set_option maxRecDepth 100000 in
theorem c_X0_holds (lch : Launch) (D : va_G) (cyI cyJ : ClassId) (sz : Nat) (h : Nat) (a1 : Nat) (a2 : Nat) (a3 : Nat) (a4 : Nat) (M1 : Nat) (M2 : Nat) (lf : Nat → Int32) (of : Nat → Int32) (nf : Nat → Int32) (wf : Nat → Int64) (nc : Nat) (ic : Nat) (x : Int32) (hnc : nc < 100000) : Met lch yX0_holds wsX0_holds ({ frames := 0, cells := 0, slots := 0, locals := 0 } : Room) (va_Pc [.ref h, .int x] (xA D (xTy cyI cyJ) sz [(h, .inr (0, [.int (nI M1), .int (nI M2), .ref a1, .ref a2, .ref a3, .ref a4, .int (nI nc), .int (nI ic)])), (a1, .inl (cyI, (1 + M1 + M2), .inl lf)), (a2, .inl (cyI, (1 + M1 + M2), .inl of)), (a3, .inl (cyI, M1, .inl nf)), (a4, .inl (cyJ, (1 + M1 + M2), .inr (.inl wf)))])) (va_Qi (fun (r : Int32) (u : Unit) => r = bI (0 ≤ x ∧ x < nI (2 * nc))) (fun (u : Unit) t => xB D (xTy cyI cyJ) sz [(h, .inr (0, [.int (nI M1), .int (nI M2), .ref a1, .ref a2, .ref a3, .ref a4, .int (nI nc), .int (nI ic)])), (a1, .inl (cyI, (1 + M1 + M2), .inl lf)), (a2, .inl (cyI, (1 + M1 + M2), .inl of)), (a3, .inl (cyI, M1, .inl nf)), (a4, .inl (cyJ, (1 + M1 + M2), .inr (.inl wf)))] [(h, .inr (0, [.int (nI M1), .int (nI M2), .ref a1, .ref a2, .ref a3, .ref a4, .int (nI nc), .int (nI ic)])), (a1, .inl (cyI, (1 + M1 + M2), .inl lf)), (a2, .inl (cyI, (1 + M1 + M2), .inl of)), (a3, .inl (cyI, M1, .inl nf)), (a4, .inl (cyJ, (1 + M1 + M2), .inr (.inl wf)))] t) (va_A [(h, .inr (0, [.int (nI M1), .int (nI M2), .ref a1, .ref a2, .ref a3, .ref a4, .int (nI nc), .int (nI ic)])), (a1, .inl (cyI, (1 + M1 + M2), .inl lf)), (a2, .inl (cyI, (1 + M1 + M2), .inl of)), (a3, .inl (cyI, M1, .inl nf)), (a4, .inl (cyJ, (1 + M1 + M2), .inr (.inl wf)))] sz)) 0 0 (va_A [(h, .inr (0, [.int (nI M1), .int (nI M2), .ref a1, .ref a2, .ref a3, .ref a4, .int (nI nc), .int (nI ic)])), (a1, .inl (cyI, (1 + M1 + M2), .inl lf)), (a2, .inl (cyI, (1 + M1 + M2), .inl of)), (a3, .inl (cyI, M1, .inl nf)), (a4, .inl (cyJ, (1 + M1 + M2), .inr (.inl wf)))] sz) := by
  refine x_met RX0 (by decide) rfl rfl (Nat.le_of_ble_eq_true rfl) ?_
  intro p e s m below meth c A Q hAe hQ hx hb hr hlocks hml hnm hts hown hNN hK hsz hP hD hS hA ls hl
  have wf32 := hts (.fieldLink RX0 32 "NetTwin$Net" "nodeCount" "I") (by decide +kernel)
  have hiX0 : ∀ w ∈ u_ws RX0 TX0 8, w ∈ wsX0_holds := by decide +kernel
  have hP : va_P D vwCl [(h, .inr (0, [.int (nI M1), .int (nI M2), .ref a1, .ref a2, .ref a3, .ref a4, .int (nI nc), .int (nI ic)])), (a1, .inl (cyI, (1 + M1 + M2), .inl lf)), (a2, .inl (cyI, (1 + M1 + M2), .inl of)), (a3, .inl (cyI, M1, .inl nf)), (a4, .inl (cyJ, (1 + M1 + M2), .inr (.inl wf)))] s.heap := hP
  have hD : va_D A [(h, .inr (0, [.int (nI M1), .int (nI M2), .ref a1, .ref a2, .ref a3, .ref a4, .int (nI nc), .int (nI ic)])), (a1, .inl (cyI, (1 + M1 + M2), .inl lf)), (a2, .inl (cyI, (1 + M1 + M2), .inl of)), (a3, .inl (cyI, M1, .inl nf)), (a4, .inl (cyJ, (1 + M1 + M2), .inr (.inl wf)))] := hD
  have hl : lv_has ls 2 [(0, .ref h), (1, .int x)] := hl
  refine lv_iload_n hx hb dX0_holds_0 rfl (lv_at hl 1 rfl) ?_
  refine lv_if_lt (tgt := 18) hx hb dX0_holds_1 (by decide) (fun c1 => ?_) (fun c1 => ?_)
  · refine lv_iconst (v := nI 0) hx hb dX0_holds_18 (by decide) ?_
    refine x_top (show nI 0 = bI (0 ≤ x ∧ x < nI (2 * nc)) from bI_fn (by rintro ⟨p1, p2⟩; exact absurd c1 (Int32.not_lt.mpr p1))) ?_
    exact x_iret hQ hAe hx hb hr hlocks (bI_z) hS hK (Nat.le_of_ble_eq_true rfl) (Nat.le_of_ble_eq_true rfl) dX0_holds_19 () hP hD (rfl)
  · have c1 := Int32.not_lt.mp c1
    refine lv_iload_n hx hb dX0_holds_4 rfl (lv_at hl 1 rfl) ?_
    refine lv_iconst (v := nI 2) hx hb dX0_holds_5 (by decide) ?_
    refine lv_aload_n hx hb dX0_holds_6 rfl (lv_at hl 0 rfl) ?_
    refine va_get (D := D) (ci := 0) (v := .int (nI nc)) (C := RX0) (T := TX0) (N := 8) hx hb hts hiX0 hown hK hP 0 rfl rfl 6 (by decide) wf32 (fun _ h9 => h9) rfl dX0_holds_7 ?_
    refine lv_imul hx hb dX0_holds_10 ?_
    refine x_top (pk_mul _ _) ?_
    refine lv_icmp_ge (tgt := 18) hx hb dX0_holds_11 (by decide) (fun c11 => ?_) (fun c11 => ?_)
    · refine lv_iconst (v := nI 0) hx hb dX0_holds_18 (by decide) ?_
      refine x_top (show nI 0 = bI (0 ≤ x ∧ x < nI (2 * nc)) from bI_fn (by rintro ⟨p1, p2⟩; exact absurd p2 (Int32.not_lt.mpr c11))) ?_
      exact x_iret hQ hAe hx hb hr hlocks (bI_z) hS hK (Nat.le_of_ble_eq_true rfl) (Nat.le_of_ble_eq_true rfl) dX0_holds_19 () hP hD (rfl)
    · refine lv_iconst (v := nI 1) hx hb dX0_holds_14 (by decide) ?_
      refine x_top (show nI 1 = bI (0 ≤ x ∧ x < nI (2 * nc)) from bI_tn ⟨c1, Int32.not_le.mp c11⟩) ?_
      refine lv_goto (tgt := 19) hx hb dX0_holds_15 (by decide) ?_
      exact x_iret hQ hAe hx hb hr hlocks (bI_z) hS hK (Nat.le_of_ble_eq_true rfl) (Nat.le_of_ble_eq_true rfl) dX0_holds_19 () hP hD (rfl)
set_option maxHeartbeats 4000000 in
set_option maxRecDepth 100000 in
theorem c_X0_isGate (lch : Launch) (D : va_G) (cyI cyJ : ClassId) (sz : Nat) (h : Nat) (a1 : Nat) (a2 : Nat) (a3 : Nat) (a4 : Nat) (M1 : Nat) (M2 : Nat) (lf : Nat → Int32) (of : Nat → Int32) (nf : Nat → Int32) (wf : Nat → Int64) (nc : Nat) (ic : Nat) (k : Nat) (hk : k < 1 + M1 + M2) (hMM : M1 + M2 < 10000) : Met lch yX0_isGate wsX0_isGate ({ frames := 0, cells := 0, slots := 0, locals := 0 } : Room) (va_Pc [.ref h, .int (nI k)] (xA D (xTy cyI cyJ) sz [(h, .inr (0, [.int (nI M1), .int (nI M2), .ref a1, .ref a2, .ref a3, .ref a4, .int (nI nc), .int (nI ic)])), (a1, .inl (cyI, (1 + M1 + M2), .inl lf)), (a2, .inl (cyI, (1 + M1 + M2), .inl of)), (a3, .inl (cyI, M1, .inl nf)), (a4, .inl (cyJ, (1 + M1 + M2), .inr (.inl wf)))])) (va_Qi (fun (r : Int32) (u : Unit) => r = bI (¬ lf k = -1)) (fun (u : Unit) t => xB D (xTy cyI cyJ) sz [(h, .inr (0, [.int (nI M1), .int (nI M2), .ref a1, .ref a2, .ref a3, .ref a4, .int (nI nc), .int (nI ic)])), (a1, .inl (cyI, (1 + M1 + M2), .inl lf)), (a2, .inl (cyI, (1 + M1 + M2), .inl of)), (a3, .inl (cyI, M1, .inl nf)), (a4, .inl (cyJ, (1 + M1 + M2), .inr (.inl wf)))] [(h, .inr (0, [.int (nI M1), .int (nI M2), .ref a1, .ref a2, .ref a3, .ref a4, .int (nI nc), .int (nI ic)])), (a1, .inl (cyI, (1 + M1 + M2), .inl lf)), (a2, .inl (cyI, (1 + M1 + M2), .inl of)), (a3, .inl (cyI, M1, .inl nf)), (a4, .inl (cyJ, (1 + M1 + M2), .inr (.inl wf)))] t) (va_A [(h, .inr (0, [.int (nI M1), .int (nI M2), .ref a1, .ref a2, .ref a3, .ref a4, .int (nI nc), .int (nI ic)])), (a1, .inl (cyI, (1 + M1 + M2), .inl lf)), (a2, .inl (cyI, (1 + M1 + M2), .inl of)), (a3, .inl (cyI, M1, .inl nf)), (a4, .inl (cyJ, (1 + M1 + M2), .inr (.inl wf)))] sz)) 0 0 (va_A [(h, .inr (0, [.int (nI M1), .int (nI M2), .ref a1, .ref a2, .ref a3, .ref a4, .int (nI nc), .int (nI ic)])), (a1, .inl (cyI, (1 + M1 + M2), .inl lf)), (a2, .inl (cyI, (1 + M1 + M2), .inl of)), (a3, .inl (cyI, M1, .inl nf)), (a4, .inl (cyJ, (1 + M1 + M2), .inr (.inl wf)))] sz) := by
  refine x_met RX0 (by decide) rfl rfl (Nat.le_of_ble_eq_true rfl) ?_
  intro p e s m below meth c A Q hAe hQ hx hb hr hlocks hml hnm hts hown hNN hK hsz hP hD hS hA ls hl
  have wf18 := hts (.fieldLink RX0 18 "NetTwin$Net" "lesser" "[I") (by decide +kernel)
  have hiX0 : ∀ w ∈ u_ws RX0 TX0 8, w ∈ wsX0_isGate := by decide +kernel
  have hP : va_P D vwCl [(h, .inr (0, [.int (nI M1), .int (nI M2), .ref a1, .ref a2, .ref a3, .ref a4, .int (nI nc), .int (nI ic)])), (a1, .inl (cyI, (1 + M1 + M2), .inl lf)), (a2, .inl (cyI, (1 + M1 + M2), .inl of)), (a3, .inl (cyI, M1, .inl nf)), (a4, .inl (cyJ, (1 + M1 + M2), .inr (.inl wf)))] s.heap := hP
  have hD : va_D A [(h, .inr (0, [.int (nI M1), .int (nI M2), .ref a1, .ref a2, .ref a3, .ref a4, .int (nI nc), .int (nI ic)])), (a1, .inl (cyI, (1 + M1 + M2), .inl lf)), (a2, .inl (cyI, (1 + M1 + M2), .inl of)), (a3, .inl (cyI, M1, .inl nf)), (a4, .inl (cyJ, (1 + M1 + M2), .inr (.inl wf)))] := hD
  have hl : lv_has ls 2 [(0, .ref h), (1, .int (nI k))] := hl
  refine lv_aload_n hx hb dX0_isGate_0 rfl (lv_at hl 0 rfl) ?_
  refine va_get (D := D) (ci := 0) (v := .ref a1) (C := RX0) (T := TX0) (N := 8) hx hb hts hiX0 hown hK hP 0 rfl rfl 2 (by decide) wf18 (fun _ h9 => h9) rfl dX0_isGate_1 ?_
  refine lv_iload_n hx hb dX0_isGate_4 rfl (lv_at hl 1 rfl) ?_
  refine x_iald hx hb hK hP 1 0 rfl rfl (by omega) (by omega) dX0_isGate_5 ?_
  refine lv_iconst (v := (-1)) hx hb dX0_isGate_6 (by decide) ?_
  refine lv_icmp_eq (tgt := 14) hx hb dX0_isGate_7 (by decide) (fun c7 => ?_) (fun c7 => ?_)
  · refine lv_iconst (v := nI 0) hx hb dX0_isGate_14 (by decide) ?_
    refine x_top (show nI 0 = bI (¬ lf k = -1) from bI_fn (fun z => z c7)) ?_
    exact x_iret hQ hAe hx hb hr hlocks (bI_z) hS hK (Nat.le_of_ble_eq_true rfl) (Nat.le_of_ble_eq_true rfl) dX0_isGate_15 () hP hD (rfl)
  · refine lv_iconst (v := nI 1) hx hb dX0_isGate_10 (by decide) ?_
    refine x_top (show nI 1 = bI (¬ lf k = -1) from bI_tn c7) ?_
    refine lv_goto (tgt := 15) hx hb dX0_isGate_11 (by decide) ?_
    exact x_iret hQ hAe hx hb hr hlocks (bI_z) hS hK (Nat.le_of_ble_eq_true rfl) (Nat.le_of_ble_eq_true rfl) dX0_isGate_15 () hP hD (rfl)
set_option maxHeartbeats 4000000 in
set_option maxRecDepth 100000 in
theorem c_X0_addNode (lch : Launch) (D : va_G) (cyI cyJ : ClassId) (sz : Nat) (h : Nat) (a1 : Nat) (a2 : Nat) (a3 : Nat) (a4 : Nat) (M1 : Nat) (M2 : Nat) (lf : Nat → Int32) (of : Nat → Int32) (nf : Nat → Int32) (wf : Nat → Int64) (nc : Nat) (ic : Nat) (x : Int32) (y : Int32) (hk : nc < 1 + M1 + M2) (hMM : M1 + M2 < 10000) : Met lch yX0_addNode wsX0_addNode ({ frames := 0, cells := 0, slots := 0, locals := 0 } : Room) (va_Pc [.ref h, .int x, .int y] (xA D (xTy cyI cyJ) sz [(h, .inr (0, [.int (nI M1), .int (nI M2), .ref a1, .ref a2, .ref a3, .ref a4, .int (nI nc), .int (nI ic)])), (a1, .inl (cyI, (1 + M1 + M2), .inl lf)), (a2, .inl (cyI, (1 + M1 + M2), .inl of)), (a3, .inl (cyI, M1, .inl nf)), (a4, .inl (cyJ, (1 + M1 + M2), .inr (.inl wf)))])) (va_Qi (fun (r : Int32) (u : Unit) => r = nI (2 * nc)) (fun (u : Unit) t => xB D (xTy cyI cyJ) sz [(h, .inr (0, [.int (nI M1), .int (nI M2), .ref a1, .ref a2, .ref a3, .ref a4, .int (nI nc), .int (nI ic)])), (a1, .inl (cyI, (1 + M1 + M2), .inl lf)), (a2, .inl (cyI, (1 + M1 + M2), .inl of)), (a3, .inl (cyI, M1, .inl nf)), (a4, .inl (cyJ, (1 + M1 + M2), .inr (.inl wf)))] [(h, .inr (0, [.int (nI M1), .int (nI M2), .ref a1, .ref a2, .ref a3, .ref a4, .int (nI (nc + 1)), .int (nI ic)])), (a1, .inl (cyI, (1 + M1 + M2), .inl (upd lf nc x))), (a2, .inl (cyI, (1 + M1 + M2), .inl (upd of nc y))), (a3, .inl (cyI, M1, .inl nf)), (a4, .inl (cyJ, (1 + M1 + M2), .inr (.inl wf)))] t) (va_A [(h, .inr (0, [.int (nI M1), .int (nI M2), .ref a1, .ref a2, .ref a3, .ref a4, .int (nI nc), .int (nI ic)])), (a1, .inl (cyI, (1 + M1 + M2), .inl lf)), (a2, .inl (cyI, (1 + M1 + M2), .inl of)), (a3, .inl (cyI, M1, .inl nf)), (a4, .inl (cyJ, (1 + M1 + M2), .inr (.inl wf)))] sz)) 0 0 (va_A [(h, .inr (0, [.int (nI M1), .int (nI M2), .ref a1, .ref a2, .ref a3, .ref a4, .int (nI nc), .int (nI ic)])), (a1, .inl (cyI, (1 + M1 + M2), .inl lf)), (a2, .inl (cyI, (1 + M1 + M2), .inl of)), (a3, .inl (cyI, M1, .inl nf)), (a4, .inl (cyJ, (1 + M1 + M2), .inr (.inl wf)))] sz) := by
  refine x_met RX0 (by decide) rfl rfl (Nat.le_of_ble_eq_true rfl) ?_
  intro p e s m below meth c A Q hAe hQ hx hb hr hlocks hml hnm hts hown hNN hK hsz hP hD hS hA ls hl
  have wf32 := hts (.fieldLink RX0 32 "NetTwin$Net" "nodeCount" "I") (by decide +kernel)
  have hiX0 : ∀ w ∈ u_ws RX0 TX0 8, w ∈ wsX0_addNode := by decide +kernel
  have wf18 := hts (.fieldLink RX0 18 "NetTwin$Net" "lesser" "[I") (by decide +kernel)
  have wf22 := hts (.fieldLink RX0 22 "NetTwin$Net" "other" "[I") (by decide +kernel)
  have hP : va_P D vwCl [(h, .inr (0, [.int (nI M1), .int (nI M2), .ref a1, .ref a2, .ref a3, .ref a4, .int (nI nc), .int (nI ic)])), (a1, .inl (cyI, (1 + M1 + M2), .inl lf)), (a2, .inl (cyI, (1 + M1 + M2), .inl of)), (a3, .inl (cyI, M1, .inl nf)), (a4, .inl (cyJ, (1 + M1 + M2), .inr (.inl wf)))] s.heap := hP
  have hD : va_D A [(h, .inr (0, [.int (nI M1), .int (nI M2), .ref a1, .ref a2, .ref a3, .ref a4, .int (nI nc), .int (nI ic)])), (a1, .inl (cyI, (1 + M1 + M2), .inl lf)), (a2, .inl (cyI, (1 + M1 + M2), .inl of)), (a3, .inl (cyI, M1, .inl nf)), (a4, .inl (cyJ, (1 + M1 + M2), .inr (.inl wf)))] := hD
  have hl : lv_has ls 4 [(0, .ref h), (1, .int x), (2, .int y)] := hl
  refine lv_aload_n hx hb dX0_addNode_0 rfl (lv_at hl 0 rfl) ?_
  refine va_get (D := D) (ci := 0) (v := .int (nI nc)) (C := RX0) (T := TX0) (N := 8) hx hb hts hiX0 hown hK hP 0 rfl rfl 6 (by decide) wf32 (fun _ h9 => h9) rfl dX0_addNode_1 ?_
  refine lv_istore_n (lv' := [(3, .int (nI nc)), (0, .ref h), (1, .int x), (2, .int y)]) hx hb dX0_addNode_4 rfl hl (by decide) rfl (fun ls hl => ?_)
  refine lv_aload_n hx hb dX0_addNode_5 rfl (lv_at hl 1 rfl) ?_
  refine va_get (D := D) (ci := 0) (v := .ref a1) (C := RX0) (T := TX0) (N := 8) hx hb hts hiX0 hown hK hP 0 rfl rfl 2 (by decide) wf18 (fun _ h9 => h9) rfl dX0_addNode_6 ?_
  refine lv_iload_n hx hb dX0_addNode_9 rfl (lv_at hl 0 rfl) ?_
  refine lv_iload_n hx hb dX0_addNode_10 rfl (lv_at hl 2 rfl) ?_
  refine x_iast hx hb hK hP hD hS 1 0 rfl rfl (by omega) (by omega) dX0_addNode_11 (fun H locs hP hD hS => ?_)
  have hP : va_P D vwCl [(h, .inr (0, [.int (nI M1), .int (nI M2), .ref a1, .ref a2, .ref a3, .ref a4, .int (nI nc), .int (nI ic)])), (a1, .inl (cyI, (1 + M1 + M2), .inl (upd lf nc x))), (a2, .inl (cyI, (1 + M1 + M2), .inl of)), (a3, .inl (cyI, M1, .inl nf)), (a4, .inl (cyJ, (1 + M1 + M2), .inr (.inl wf)))] H := hP
  have hD : va_D A [(h, .inr (0, [.int (nI M1), .int (nI M2), .ref a1, .ref a2, .ref a3, .ref a4, .int (nI nc), .int (nI ic)])), (a1, .inl (cyI, (1 + M1 + M2), .inl (upd lf nc x))), (a2, .inl (cyI, (1 + M1 + M2), .inl of)), (a3, .inl (cyI, M1, .inl nf)), (a4, .inl (cyJ, (1 + M1 + M2), .inr (.inl wf)))] := hD
  refine lv_aload_n hx hb dX0_addNode_12 rfl (lv_at hl 1 rfl) ?_
  refine va_get (D := D) (ci := 0) (v := .ref a2) (C := RX0) (T := TX0) (N := 8) hx hb hts hiX0 hown hK hP 0 rfl rfl 3 (by decide) wf22 (fun _ h9 => h9) rfl dX0_addNode_13 ?_
  refine lv_iload_n hx hb dX0_addNode_16 rfl (lv_at hl 0 rfl) ?_
  refine lv_iload_n hx hb dX0_addNode_17 rfl (lv_at hl 3 rfl) ?_
  refine x_iast hx hb hK hP hD hS 2 0 rfl rfl (by omega) (by omega) dX0_addNode_18 (fun H locs hP hD hS => ?_)
  have hP : va_P D vwCl [(h, .inr (0, [.int (nI M1), .int (nI M2), .ref a1, .ref a2, .ref a3, .ref a4, .int (nI nc), .int (nI ic)])), (a1, .inl (cyI, (1 + M1 + M2), .inl (upd lf nc x))), (a2, .inl (cyI, (1 + M1 + M2), .inl (upd of nc y))), (a3, .inl (cyI, M1, .inl nf)), (a4, .inl (cyJ, (1 + M1 + M2), .inr (.inl wf)))] H := hP
  have hD : va_D A [(h, .inr (0, [.int (nI M1), .int (nI M2), .ref a1, .ref a2, .ref a3, .ref a4, .int (nI nc), .int (nI ic)])), (a1, .inl (cyI, (1 + M1 + M2), .inl (upd lf nc x))), (a2, .inl (cyI, (1 + M1 + M2), .inl (upd of nc y))), (a3, .inl (cyI, M1, .inl nf)), (a4, .inl (cyJ, (1 + M1 + M2), .inr (.inl wf)))] := hD
  refine lv_aload_n hx hb dX0_addNode_19 rfl (lv_at hl 1 rfl) ?_
  refine lv_dup hx hb dX0_addNode_20 rfl ?_
  refine va_get (D := D) (ci := 0) (v := .int (nI nc)) (C := RX0) (T := TX0) (N := 8) hx hb hts hiX0 hown hK hP 0 rfl rfl 6 (by decide) wf32 (fun _ h9 => h9) rfl dX0_addNode_21 ?_
  refine lv_iconst (v := nI 1) hx hb dX0_addNode_24 (by decide) ?_
  refine lv_iadd hx hb dX0_addNode_25 ?_
  refine x_top (nI_add _ _) ?_
  refine va_put (D := D) (ci := 0) (v := .int (nI (nc + 1))) (ty := .int) (C := RX0) (T := TX0) (N := 8) hx hb hts hiX0 tyX0 tyX0_ok nmX0 hown hK hP hD hS 0 rfl rfl 6 (by decide) wf32 (fun _ h9 => h9) rfl (by decide +kernel) rfl rfl (Nat.le_of_ble_eq_true rfl) dX0_addNode_26 (fun H locs hP hD hS => ?_)
  have hP : va_P D vwCl [(h, .inr (0, [.int (nI M1), .int (nI M2), .ref a1, .ref a2, .ref a3, .ref a4, .int (nI (nc + 1)), .int (nI ic)])), (a1, .inl (cyI, (1 + M1 + M2), .inl (upd lf nc x))), (a2, .inl (cyI, (1 + M1 + M2), .inl (upd of nc y))), (a3, .inl (cyI, M1, .inl nf)), (a4, .inl (cyJ, (1 + M1 + M2), .inr (.inl wf)))] H := hP
  have hD : va_D A [(h, .inr (0, [.int (nI M1), .int (nI M2), .ref a1, .ref a2, .ref a3, .ref a4, .int (nI (nc + 1)), .int (nI ic)])), (a1, .inl (cyI, (1 + M1 + M2), .inl (upd lf nc x))), (a2, .inl (cyI, (1 + M1 + M2), .inl (upd of nc y))), (a3, .inl (cyI, M1, .inl nf)), (a4, .inl (cyJ, (1 + M1 + M2), .inr (.inl wf)))] := hD
  refine lv_iconst (v := nI 2) hx hb dX0_addNode_29 (by decide) ?_
  refine lv_iload_n hx hb dX0_addNode_30 rfl (lv_at hl 0 rfl) ?_
  refine lv_imul hx hb dX0_addNode_31 ?_
  refine x_top (pk_mul _ _) ?_
  exact x_iret hQ hAe hx hb hr hlocks (rfl) hS hK (Nat.le_of_ble_eq_true rfl) (Nat.le_of_ble_eq_true rfl) dX0_addNode_32 () hP hD (rfl)
set_option maxHeartbeats 4000000 in
set_option maxRecDepth 100000 in
theorem c_X0_addInput (lch : Launch) (D : va_G) (cyI cyJ : ClassId) (sz : Nat) (h : Nat) (a1 : Nat) (a2 : Nat) (a3 : Nat) (a4 : Nat) (M1 : Nat) (M2 : Nat) (lf : Nat → Int32) (of : Nat → Int32) (nf : Nat → Int32) (wf : Nat → Int64) (nc : Nat) (ic : Nat) (hi : ic < M1) (hk : nc < 1 + M1 + M2) (hMM : M1 + M2 < 10000) : Met lch yX0_addInput wsX0_addInput ({ frames := 1, cells := 0, slots := 0, locals := 23 } : Room) (va_Pc [.ref h] (xA D (xTy cyI cyJ) sz [(h, .inr (0, [.int (nI M1), .int (nI M2), .ref a1, .ref a2, .ref a3, .ref a4, .int (nI nc), .int (nI ic)])), (a1, .inl (cyI, (1 + M1 + M2), .inl lf)), (a2, .inl (cyI, (1 + M1 + M2), .inl of)), (a3, .inl (cyI, M1, .inl nf)), (a4, .inl (cyJ, (1 + M1 + M2), .inr (.inl wf)))])) (va_Qi (fun (r : Int32) (u : Unit) => r = nI (2 * nc)) (fun (u : Unit) t => xB D (xTy cyI cyJ) sz [(h, .inr (0, [.int (nI M1), .int (nI M2), .ref a1, .ref a2, .ref a3, .ref a4, .int (nI nc), .int (nI ic)])), (a1, .inl (cyI, (1 + M1 + M2), .inl lf)), (a2, .inl (cyI, (1 + M1 + M2), .inl of)), (a3, .inl (cyI, M1, .inl nf)), (a4, .inl (cyJ, (1 + M1 + M2), .inr (.inl wf)))] [(h, .inr (0, [.int (nI M1), .int (nI M2), .ref a1, .ref a2, .ref a3, .ref a4, .int (nI (nc + 1)), .int (nI (ic + 1))])), (a1, .inl (cyI, (1 + M1 + M2), .inl (upd lf nc (-1)))), (a2, .inl (cyI, (1 + M1 + M2), .inl (upd of nc (-1)))), (a3, .inl (cyI, M1, .inl (upd nf ic (nI nc)))), (a4, .inl (cyJ, (1 + M1 + M2), .inr (.inl wf)))] t) (va_A [(h, .inr (0, [.int (nI M1), .int (nI M2), .ref a1, .ref a2, .ref a3, .ref a4, .int (nI nc), .int (nI ic)])), (a1, .inl (cyI, (1 + M1 + M2), .inl lf)), (a2, .inl (cyI, (1 + M1 + M2), .inl of)), (a3, .inl (cyI, M1, .inl nf)), (a4, .inl (cyJ, (1 + M1 + M2), .inr (.inl wf)))] sz)) 0 0 (va_A [(h, .inr (0, [.int (nI M1), .int (nI M2), .ref a1, .ref a2, .ref a3, .ref a4, .int (nI nc), .int (nI ic)])), (a1, .inl (cyI, (1 + M1 + M2), .inl lf)), (a2, .inl (cyI, (1 + M1 + M2), .inl of)), (a3, .inl (cyI, M1, .inl nf)), (a4, .inl (cyJ, (1 + M1 + M2), .inr (.inl wf)))] sz) := by
  refine x_met RX0 (by decide) rfl rfl (Nat.le_of_ble_eq_true rfl) ?_
  intro p e s m below meth c A Q hAe hQ hx hb hr hlocks hml hnm hts hown hNN hK hsz hP hD hS hA ls hl
  have wf35 := hts (.fieldLink RX0 35 "NetTwin$Net" "inputCount" "I") (by decide +kernel)
  have hiX0 : ∀ w ∈ u_ws RX0 TX0 8, w ∈ wsX0_addInput := by decide +kernel
  have wf9 := hts (.fieldLink RX0 9 "NetTwin$Net" "mostInputs" "I") (by decide +kernel)
  have wf25 := hts (.fieldLink RX0 25 "NetTwin$Net" "inputNode" "[I") (by decide +kernel)
  have wf32 := hts (.fieldLink RX0 32 "NetTwin$Net" "nodeCount" "I") (by decide +kernel)
  have hP : va_P D vwCl [(h, .inr (0, [.int (nI M1), .int (nI M2), .ref a1, .ref a2, .ref a3, .ref a4, .int (nI nc), .int (nI ic)])), (a1, .inl (cyI, (1 + M1 + M2), .inl lf)), (a2, .inl (cyI, (1 + M1 + M2), .inl of)), (a3, .inl (cyI, M1, .inl nf)), (a4, .inl (cyJ, (1 + M1 + M2), .inr (.inl wf)))] s.heap := hP
  have hD : va_D A [(h, .inr (0, [.int (nI M1), .int (nI M2), .ref a1, .ref a2, .ref a3, .ref a4, .int (nI nc), .int (nI ic)])), (a1, .inl (cyI, (1 + M1 + M2), .inl lf)), (a2, .inl (cyI, (1 + M1 + M2), .inl of)), (a3, .inl (cyI, M1, .inl nf)), (a4, .inl (cyJ, (1 + M1 + M2), .inr (.inl wf)))] := hD
  have hl : lv_has ls 1 [(0, .ref h)] := hl
  refine lv_aload_n hx hb dX0_addInput_0 rfl (lv_at hl 0 rfl) ?_
  refine va_get (D := D) (ci := 0) (v := .int (nI ic)) (C := RX0) (T := TX0) (N := 8) hx hb hts hiX0 hown hK hP 0 rfl rfl 7 (by decide) wf35 (fun _ h9 => h9) rfl dX0_addInput_1 ?_
  refine lv_aload_n hx hb dX0_addInput_4 rfl (lv_at hl 0 rfl) ?_
  refine va_get (D := D) (ci := 0) (v := .int (nI M1)) (C := RX0) (T := TX0) (N := 8) hx hb hts hiX0 hown hK hP 0 rfl rfl 0 (by decide) wf9 (fun _ h9 => h9) rfl dX0_addInput_5 ?_
  refine lv_icmp_lt (tgt := 13) hx hb dX0_addInput_8 (by decide) (fun c8 => ?_) (fun c8 => absurd ((nI_ltI (by omega) (by omega)).mpr hi) c8)
  refine lv_aload_n hx hb dX0_addInput_13 rfl (lv_at hl 0 rfl) ?_
  refine va_get (D := D) (ci := 0) (v := .ref a3) (C := RX0) (T := TX0) (N := 8) hx hb hts hiX0 hown hK hP 0 rfl rfl 4 (by decide) wf25 (fun _ h9 => h9) rfl dX0_addInput_14 ?_
  refine lv_aload_n hx hb dX0_addInput_17 rfl (lv_at hl 0 rfl) ?_
  refine va_get (D := D) (ci := 0) (v := .int (nI ic)) (C := RX0) (T := TX0) (N := 8) hx hb hts hiX0 hown hK hP 0 rfl rfl 7 (by decide) wf35 (fun _ h9 => h9) rfl dX0_addInput_18 ?_
  refine lv_aload_n hx hb dX0_addInput_21 rfl (lv_at hl 0 rfl) ?_
  refine va_get (D := D) (ci := 0) (v := .int (nI nc)) (C := RX0) (T := TX0) (N := 8) hx hb hts hiX0 hown hK hP 0 rfl rfl 6 (by decide) wf32 (fun _ h9 => h9) rfl dX0_addInput_22 ?_
  refine x_iast hx hb hK hP hD hS 3 0 rfl rfl (by omega) (by omega) dX0_addInput_25 (fun H locs hP hD hS => ?_)
  have hP : va_P D vwCl [(h, .inr (0, [.int (nI M1), .int (nI M2), .ref a1, .ref a2, .ref a3, .ref a4, .int (nI nc), .int (nI ic)])), (a1, .inl (cyI, (1 + M1 + M2), .inl lf)), (a2, .inl (cyI, (1 + M1 + M2), .inl of)), (a3, .inl (cyI, M1, .inl (upd nf ic (nI nc)))), (a4, .inl (cyJ, (1 + M1 + M2), .inr (.inl wf)))] H := hP
  have hD : va_D A [(h, .inr (0, [.int (nI M1), .int (nI M2), .ref a1, .ref a2, .ref a3, .ref a4, .int (nI nc), .int (nI ic)])), (a1, .inl (cyI, (1 + M1 + M2), .inl lf)), (a2, .inl (cyI, (1 + M1 + M2), .inl of)), (a3, .inl (cyI, M1, .inl (upd nf ic (nI nc)))), (a4, .inl (cyJ, (1 + M1 + M2), .inr (.inl wf)))] := hD
  refine lv_aload_n hx hb dX0_addInput_26 rfl (lv_at hl 0 rfl) ?_
  refine lv_dup hx hb dX0_addInput_27 rfl ?_
  refine va_get (D := D) (ci := 0) (v := .int (nI ic)) (C := RX0) (T := TX0) (N := 8) hx hb hts hiX0 hown hK hP 0 rfl rfl 7 (by decide) wf35 (fun _ h9 => h9) rfl dX0_addInput_28 ?_
  refine lv_iconst (v := nI 1) hx hb dX0_addInput_31 (by decide) ?_
  refine lv_iadd hx hb dX0_addInput_32 ?_
  refine x_top (nI_add _ _) ?_
  refine va_put (D := D) (ci := 0) (v := .int (nI (ic + 1))) (ty := .int) (C := RX0) (T := TX0) (N := 8) hx hb hts hiX0 tyX0 tyX0_ok nmX0 hown hK hP hD hS 0 rfl rfl 7 (by decide) wf35 (fun _ h9 => h9) rfl (by decide +kernel) rfl rfl (Nat.le_of_ble_eq_true rfl) dX0_addInput_33 (fun H locs hP hD hS => ?_)
  have hP : va_P D vwCl [(h, .inr (0, [.int (nI M1), .int (nI M2), .ref a1, .ref a2, .ref a3, .ref a4, .int (nI nc), .int (nI (ic + 1))])), (a1, .inl (cyI, (1 + M1 + M2), .inl lf)), (a2, .inl (cyI, (1 + M1 + M2), .inl of)), (a3, .inl (cyI, M1, .inl (upd nf ic (nI nc)))), (a4, .inl (cyJ, (1 + M1 + M2), .inr (.inl wf)))] H := hP
  have hD : va_D A [(h, .inr (0, [.int (nI M1), .int (nI M2), .ref a1, .ref a2, .ref a3, .ref a4, .int (nI nc), .int (nI (ic + 1))])), (a1, .inl (cyI, (1 + M1 + M2), .inl lf)), (a2, .inl (cyI, (1 + M1 + M2), .inl of)), (a3, .inl (cyI, M1, .inl (upd nf ic (nI nc)))), (a4, .inl (cyJ, (1 + M1 + M2), .inr (.inl wf)))] := hD
  refine lv_aload_n hx hb dX0_addInput_36 rfl (lv_at hl 0 rfl) ?_
  refine lv_iconst (v := (-1)) hx hb dX0_addInput_37 (by decide) ?_
  refine lv_iconst (v := (-1)) hx hb dX0_addInput_38 (by decide) ?_
  refine x_calli (wc := [(h, .inr (0, [.int (nI M1), .int (nI M2), .ref a1, .ref a2, .ref a3, .ref a4, .int (nI nc), .int (nI (ic + 1))])), (a1, .inl (cyI, (1 + M1 + M2), .inl lf)), (a2, .inl (cyI, (1 + M1 + M2), .inl of)), (a3, .inl (cyI, M1, .inl (upd nf ic (nI nc)))), (a4, .inl (cyJ, (1 + M1 + M2), .inr (.inl wf)))]) (wr := []) (w2 := fun (u : Unit) => [(h, .inr (0, [.int (nI M1), .int (nI M2), .ref a1, .ref a2, .ref a3, .ref a4, .int (nI (nc + 1)), .int (nI (ic + 1))])), (a1, .inl (cyI, (1 + M1 + M2), .inl (upd lf nc (-1)))), (a2, .inl (cyI, (1 + M1 + M2), .inl (upd of nc (-1)))), (a3, .inl (cyI, M1, .inl (upd nf ic (nI nc)))), (a4, .inl (cyJ, (1 + M1 + M2), .inr (.inl wf)))]) [0, 1, 2, 3, 4] [] [0, 1, 2, 3, 4] (va_runV (As := [.int (-1), .int (-1)]) (rest := []) ⟨hx, hb, hml, hown, hts⟩ (c_X0_addNode lch D cyI cyJ _ h a1 a2 a3 a4 M1 M2 lf of (upd nf ic (nI nc)) wf nc (ic + 1) (-1) (-1) (by first | assumption | omega) (by first | assumption | omega)) (cwV 2 hts gX0_addInput_X0_addNode rfl rfl rfl (by decide +kernel) ⟨Nat.le_of_ble_eq_true rfl, Nat.le_of_ble_eq_true rfl⟩) (x_preV hK hNN (hP.sub (ws' := [(h, .inr (0, [.int (nI M1), .int (nI M2), .ref a1, .ref a2, .ref a3, .ref a4, .int (nI nc), .int (nI (ic + 1))])), (a1, .inl (cyI, (1 + M1 + M2), .inl lf)), (a2, .inl (cyI, (1 + M1 + M2), .inl of)), (a3, .inl (cyI, M1, .inl (upd nf ic (nI nc)))), (a4, .inl (cyJ, (1 + M1 + M2), .inr (.inl wf)))]) [0, 1, 2, 3, 4] rfl) (hD.sub (ws' := [(h, .inr (0, [.int (nI M1), .int (nI M2), .ref a1, .ref a2, .ref a3, .ref a4, .int (nI nc), .int (nI (ic + 1))])), (a1, .inl (cyI, (1 + M1 + M2), .inl lf)), (a2, .inl (cyI, (1 + M1 + M2), .inl of)), (a3, .inl (cyI, M1, .inl (upd nf ic (nI nc)))), (a4, .inl (cyJ, (1 + M1 + M2), .inr (.inl wf)))]) [0, 1, 2, 3, 4] (by decide) rfl) rfl rfl (ci := 0) (q0 := 0) rfl rfl rfl) rfl rfl hl.1 rfl (lv_room (Nat.le_of_ble_eq_true rfl)) dX0_addInput_39 ⟨Nat.le_of_ble_eq_true rfl, Nat.le_of_ble_eq_true rfl⟩) rfl hP hD hS hA rfl rfl (by decide) (by decide) (fun _ => rfl) (by decide) (fun r39 u39 H locs hw39 hP hD hS hz39 => ?_)
  have hP : va_P D vwCl [(h, .inr (0, [.int (nI M1), .int (nI M2), .ref a1, .ref a2, .ref a3, .ref a4, .int (nI (nc + 1)), .int (nI (ic + 1))])), (a1, .inl (cyI, (1 + M1 + M2), .inl (upd lf nc (-1)))), (a2, .inl (cyI, (1 + M1 + M2), .inl (upd of nc (-1)))), (a3, .inl (cyI, M1, .inl (upd nf ic (nI nc)))), (a4, .inl (cyJ, (1 + M1 + M2), .inr (.inl wf)))] H := hP
  have hD : va_D A [(h, .inr (0, [.int (nI M1), .int (nI M2), .ref a1, .ref a2, .ref a3, .ref a4, .int (nI (nc + 1)), .int (nI (ic + 1))])), (a1, .inl (cyI, (1 + M1 + M2), .inl (upd lf nc (-1)))), (a2, .inl (cyI, (1 + M1 + M2), .inl (upd of nc (-1)))), (a3, .inl (cyI, M1, .inl (upd nf ic (nI nc)))), (a4, .inl (cyJ, (1 + M1 + M2), .inr (.inl wf)))] := hD
  have hw39 : r39 = nI (2 * nc) := hw39
  subst hw39
  refine W.widen (k := 0) (n := 0) (Nat.le_refl _) (Nat.le_refl _) ?_
  exact x_iret hQ hAe hx hb hr hlocks (rfl) hS hK (Nat.le_of_ble_eq_true rfl) (Nat.le_of_ble_eq_true rfl) dX0_addInput_42 () hP hD (rfl)
set_option maxHeartbeats 4000000 in
set_option maxRecDepth 100000 in
theorem c_X0_addInputF (lch : Launch) (D : va_G) (cyI cyJ : ClassId) (sz : Nat) (h : Nat) (a1 : Nat) (a2 : Nat) (a3 : Nat) (a4 : Nat) (M1 : Nat) (M2 : Nat) (lf : Nat → Int32) (of : Nat → Int32) (nf : Nat → Int32) (wf : Nat → Int64) (nc : Nat) (ic : Nat) (hi : ic = M1) (hMM : M1 + M2 < 10000) : Met lch yX0_addInput wsX0_addInput ({ frames := 1, cells := 0, slots := 0, locals := 23 } : Room) (va_Pc [.ref h] (xA D (xTy cyI cyJ) sz [(h, .inr (0, [.int (nI M1), .int (nI M2), .ref a1, .ref a2, .ref a3, .ref a4, .int (nI nc), .int (nI ic)])), (a1, .inl (cyI, (1 + M1 + M2), .inl lf)), (a2, .inl (cyI, (1 + M1 + M2), .inl of)), (a3, .inl (cyI, M1, .inl nf)), (a4, .inl (cyJ, (1 + M1 + M2), .inr (.inl wf)))])) (va_Qi (fun (r : Int32) (u : Unit) => r = (-1)) (fun (u : Unit) t => xB D (xTy cyI cyJ) sz [(h, .inr (0, [.int (nI M1), .int (nI M2), .ref a1, .ref a2, .ref a3, .ref a4, .int (nI nc), .int (nI ic)])), (a1, .inl (cyI, (1 + M1 + M2), .inl lf)), (a2, .inl (cyI, (1 + M1 + M2), .inl of)), (a3, .inl (cyI, M1, .inl nf)), (a4, .inl (cyJ, (1 + M1 + M2), .inr (.inl wf)))] [(h, .inr (0, [.int (nI M1), .int (nI M2), .ref a1, .ref a2, .ref a3, .ref a4, .int (nI nc), .int (nI ic)])), (a1, .inl (cyI, (1 + M1 + M2), .inl lf)), (a2, .inl (cyI, (1 + M1 + M2), .inl of)), (a3, .inl (cyI, M1, .inl nf)), (a4, .inl (cyJ, (1 + M1 + M2), .inr (.inl wf)))] t) (va_A [(h, .inr (0, [.int (nI M1), .int (nI M2), .ref a1, .ref a2, .ref a3, .ref a4, .int (nI nc), .int (nI ic)])), (a1, .inl (cyI, (1 + M1 + M2), .inl lf)), (a2, .inl (cyI, (1 + M1 + M2), .inl of)), (a3, .inl (cyI, M1, .inl nf)), (a4, .inl (cyJ, (1 + M1 + M2), .inr (.inl wf)))] sz)) 0 0 (va_A [(h, .inr (0, [.int (nI M1), .int (nI M2), .ref a1, .ref a2, .ref a3, .ref a4, .int (nI nc), .int (nI ic)])), (a1, .inl (cyI, (1 + M1 + M2), .inl lf)), (a2, .inl (cyI, (1 + M1 + M2), .inl of)), (a3, .inl (cyI, M1, .inl nf)), (a4, .inl (cyJ, (1 + M1 + M2), .inr (.inl wf)))] sz) := by
  refine x_met RX0 (by decide) rfl rfl (Nat.le_of_ble_eq_true rfl) ?_
  intro p e s m below meth c A Q hAe hQ hx hb hr hlocks hml hnm hts hown hNN hK hsz hP hD hS hA ls hl
  have wf35 := hts (.fieldLink RX0 35 "NetTwin$Net" "inputCount" "I") (by decide +kernel)
  have hiX0 : ∀ w ∈ u_ws RX0 TX0 8, w ∈ wsX0_addInput := by decide +kernel
  have wf9 := hts (.fieldLink RX0 9 "NetTwin$Net" "mostInputs" "I") (by decide +kernel)
  have hP : va_P D vwCl [(h, .inr (0, [.int (nI M1), .int (nI M2), .ref a1, .ref a2, .ref a3, .ref a4, .int (nI nc), .int (nI ic)])), (a1, .inl (cyI, (1 + M1 + M2), .inl lf)), (a2, .inl (cyI, (1 + M1 + M2), .inl of)), (a3, .inl (cyI, M1, .inl nf)), (a4, .inl (cyJ, (1 + M1 + M2), .inr (.inl wf)))] s.heap := hP
  have hD : va_D A [(h, .inr (0, [.int (nI M1), .int (nI M2), .ref a1, .ref a2, .ref a3, .ref a4, .int (nI nc), .int (nI ic)])), (a1, .inl (cyI, (1 + M1 + M2), .inl lf)), (a2, .inl (cyI, (1 + M1 + M2), .inl of)), (a3, .inl (cyI, M1, .inl nf)), (a4, .inl (cyJ, (1 + M1 + M2), .inr (.inl wf)))] := hD
  have hl : lv_has ls 1 [(0, .ref h)] := hl
  refine lv_aload_n hx hb dX0_addInput_0 rfl (lv_at hl 0 rfl) ?_
  refine va_get (D := D) (ci := 0) (v := .int (nI ic)) (C := RX0) (T := TX0) (N := 8) hx hb hts hiX0 hown hK hP 0 rfl rfl 7 (by decide) wf35 (fun _ h9 => h9) rfl dX0_addInput_1 ?_
  refine lv_aload_n hx hb dX0_addInput_4 rfl (lv_at hl 0 rfl) ?_
  refine va_get (D := D) (ci := 0) (v := .int (nI M1)) (C := RX0) (T := TX0) (N := 8) hx hb hts hiX0 hown hK hP 0 rfl rfl 0 (by decide) wf9 (fun _ h9 => h9) rfl dX0_addInput_5 ?_
  refine lv_icmp_lt (tgt := 13) hx hb dX0_addInput_8 (by decide) (fun c8 => absurd c8 (mt (nI_ltI (by omega) (by omega)).mp (by omega))) (fun c8 => ?_)
  refine lv_iconst (v := (-1)) hx hb dX0_addInput_11 (by decide) ?_
  exact x_iret hQ hAe hx hb hr hlocks (rfl) hS hK (Nat.le_of_ble_eq_true rfl) (Nat.le_of_ble_eq_true rfl) dX0_addInput_12 () hP hD (rfl)
set_option maxHeartbeats 4000000 in
set_option maxRecDepth 100000 in
theorem c_X0_gateOf (lch : Launch) (D : va_G) (cyI cyJ : ClassId) (sz : Nat) (h : Nat) (a1 : Nat) (a2 : Nat) (a3 : Nat) (a4 : Nat) (M1 : Nat) (M2 : Nat) (lf : Nat → Int32) (of : Nat → Int32) (nf : Nat → Int32) (wf : Nat → Int64) (ic : Nat) (l : NT) (a : Nat) (b : Nat) (hok : nOK l) (hrp : rpN l lf of) (hg : nGates l + 1 + ic = l.length) (hgM : nGates l ≤ M2) (hic : ic ≤ M1) (hMM : M1 + M2 < 10000) (ha : 2 ≤ a) (hab : a < b) (hb2 : b < 2 * l.length) : Met lch yX0_gateOf wsX0_gateOf ({ frames := 1, cells := 0, slots := 0, locals := 23 } : Room) (va_Pc [.ref h, .int (nI a), .int (nI b)] (xA D (xTy cyI cyJ) sz [(h, .inr (0, [.int (nI M1), .int (nI M2), .ref a1, .ref a2, .ref a3, .ref a4, .int (nI l.length), .int (nI ic)])), (a1, .inl (cyI, (1 + M1 + M2), .inl lf)), (a2, .inl (cyI, (1 + M1 + M2), .inl of)), (a3, .inl (cyI, M1, .inl nf)), (a4, .inl (cyJ, (1 + M1 + M2), .inr (.inl wf)))])) (va_Qi (fun (r : Int32) (u : (Nat → Int32) × (Nat → Int32)) => r = eO (nGate M2 l a b).1 ∧ rpN (nGate M2 l a b).2 u.1 u.2) (fun (u : (Nat → Int32) × (Nat → Int32)) t => xB D (xTy cyI cyJ) sz [(h, .inr (0, [.int (nI M1), .int (nI M2), .ref a1, .ref a2, .ref a3, .ref a4, .int (nI l.length), .int (nI ic)])), (a1, .inl (cyI, (1 + M1 + M2), .inl lf)), (a2, .inl (cyI, (1 + M1 + M2), .inl of)), (a3, .inl (cyI, M1, .inl nf)), (a4, .inl (cyJ, (1 + M1 + M2), .inr (.inl wf)))] [(h, .inr (0, [.int (nI M1), .int (nI M2), .ref a1, .ref a2, .ref a3, .ref a4, .int (nI (nGate M2 l a b).2.length), .int (nI ic)])), (a1, .inl (cyI, (1 + M1 + M2), .inl u.1)), (a2, .inl (cyI, (1 + M1 + M2), .inl u.2)), (a3, .inl (cyI, M1, .inl nf)), (a4, .inl (cyJ, (1 + M1 + M2), .inr (.inl wf)))] t) (va_A [(h, .inr (0, [.int (nI M1), .int (nI M2), .ref a1, .ref a2, .ref a3, .ref a4, .int (nI l.length), .int (nI ic)])), (a1, .inl (cyI, (1 + M1 + M2), .inl lf)), (a2, .inl (cyI, (1 + M1 + M2), .inl of)), (a3, .inl (cyI, M1, .inl nf)), (a4, .inl (cyJ, (1 + M1 + M2), .inr (.inl wf)))] sz)) 0 0 (va_A [(h, .inr (0, [.int (nI M1), .int (nI M2), .ref a1, .ref a2, .ref a3, .ref a4, .int (nI l.length), .int (nI ic)])), (a1, .inl (cyI, (1 + M1 + M2), .inl lf)), (a2, .inl (cyI, (1 + M1 + M2), .inl of)), (a3, .inl (cyI, M1, .inl nf)), (a4, .inl (cyJ, (1 + M1 + M2), .inr (.inl wf)))] sz) := by
  refine x_met RX0 (by decide) rfl rfl (Nat.le_of_ble_eq_true rfl) ?_
  intro p e s m below meth c A Q hAe hQ hx hb hr hlocks hml hnm hts hown hNN hK hsz hP hD hS hA ls hl
  have wf32 := hts (.fieldLink RX0 32 "NetTwin$Net" "nodeCount" "I") (by decide +kernel)
  have hiX0 : ∀ w ∈ u_ws RX0 TX0 8, w ∈ wsX0_gateOf := by decide +kernel
  have wf35 := hts (.fieldLink RX0 35 "NetTwin$Net" "inputCount" "I") (by decide +kernel)
  have wf15 := hts (.fieldLink RX0 15 "NetTwin$Net" "mostGates" "I") (by decide +kernel)
  have wf18 := hts (.fieldLink RX0 18 "NetTwin$Net" "lesser" "[I") (by decide +kernel)
  have wf22 := hts (.fieldLink RX0 22 "NetTwin$Net" "other" "[I") (by decide +kernel)
  have hP : va_P D vwCl [(h, .inr (0, [.int (nI M1), .int (nI M2), .ref a1, .ref a2, .ref a3, .ref a4, .int (nI l.length), .int (nI ic)])), (a1, .inl (cyI, (1 + M1 + M2), .inl lf)), (a2, .inl (cyI, (1 + M1 + M2), .inl of)), (a3, .inl (cyI, M1, .inl nf)), (a4, .inl (cyJ, (1 + M1 + M2), .inr (.inl wf)))] s.heap := hP
  have hD : va_D A [(h, .inr (0, [.int (nI M1), .int (nI M2), .ref a1, .ref a2, .ref a3, .ref a4, .int (nI l.length), .int (nI ic)])), (a1, .inl (cyI, (1 + M1 + M2), .inl lf)), (a2, .inl (cyI, (1 + M1 + M2), .inl of)), (a3, .inl (cyI, M1, .inl nf)), (a4, .inl (cyJ, (1 + M1 + M2), .inr (.inl wf)))] := hD
  have hl : lv_has ls 4 [(0, .ref h), (1, .int (nI a)), (2, .int (nI b))] := hl
  refine lv_iload_n hx hb dX0_gateOf_0 rfl (lv_at hl 2 rfl) ?_
  refine lv_iconst (v := nI 1) hx hb dX0_gateOf_1 (by decide) ?_
  refine lv_ishr hx hb dX0_gateOf_2 ?_
  refine x_top (n_shr1 (by omega)) ?_
  refine lv_iconst (v := nI 1) hx hb dX0_gateOf_3 (by decide) ?_
  refine lv_iadd hx hb dX0_gateOf_4 ?_
  refine x_top (nI_add _ _) ?_
  refine lv_istore_n (lv' := [(3, .int (nI (b / 2 + 1))), (0, .ref h), (1, .int (nI a)), (2, .int (nI b))]) hx hb dX0_gateOf_5 rfl hl (by decide) rfl (fun ls hl => ?_)
  have lp6 : ∀ n : Nat, ∀ (k : Nat) (hk0 : b / 2 + 1 ≤ k) (hk1 : k ≤ l.length) (hno : ∀ j, j < k → ¬ nAt l j = some (a, b)) (hme : l.length - k < n) (H : Heap) (locs : List Loc) (ls : Array Slot), va_P D vwCl [(h, .inr (0, [.int (nI M1), .int (nI M2), .ref a1, .ref a2, .ref a3, .ref a4, .int (nI l.length), .int (nI ic)])), (a1, .inl (cyI, (1 + M1 + M2), .inl lf)), (a2, .inl (cyI, (1 + M1 + M2), .inl of)), (a3, .inl (cyI, M1, .inl nf)), (a4, .inl (cyJ, (1 + M1 + M2), .inr (.inl wf)))] H → va_D A [(h, .inr (0, [.int (nI M1), .int (nI M2), .ref a1, .ref a2, .ref a3, .ref a4, .int (nI l.length), .int (nI ic)])), (a1, .inl (cyI, (1 + M1 + M2), .inl lf)), (a2, .inl (cyI, (1 + M1 + M2), .inl of)), (a3, .inl (cyI, M1, .inl nf)), (a4, .inl (cyJ, (1 + M1 + M2), .inr (.inl wf)))] → va_S A s.heap H locs → lv_has ls 4 [(3, .int (nI k)), (0, .ref h), (1, .int (nI a)), (2, .int (nI b))] → W p lch e ({ frames := 1, cells := 0, slots := 0, locals := 23 } : Room) s m ([.ref h, .int (nI a), .int (nI b)] : List Value).toArray below meth c H locs 0 0 Q (F0 m 6 ls []) := by
    intro n
    induction n with
    | zero => intro k hk0 hk1 hno hme H locs ls hP hD hS hl; exact absurd hme (Nat.not_lt_zero _)
    | succ n ih =>
      intro k hk0 hk1 hno hme H locs ls hP hD hS hl
      refine lv_iload_n hx hb dX0_gateOf_6 rfl (lv_at hl 0 rfl) ?_
      refine lv_aload_n hx hb dX0_gateOf_7 rfl (lv_at hl 1 rfl) ?_
      refine va_get (D := D) (ci := 0) (v := .int (nI l.length)) (C := RX0) (T := TX0) (N := 8) hx hb hts hiX0 hown hK hP 0 rfl rfl 6 (by decide) wf32 (fun _ h9 => h9) rfl dX0_gateOf_8 ?_
      refine lv_icmp_ge (tgt := 44) hx hb dX0_gateOf_11 (by decide) (fun c11 => ?_) (fun c11 => ?_)
      · have c11 := (nI_leI (by omega) (by omega)).mp c11
        refine lv_aload_n hx hb dX0_gateOf_44 rfl (lv_at hl 1 rfl) ?_
        refine va_get (D := D) (ci := 0) (v := .int (nI l.length)) (C := RX0) (T := TX0) (N := 8) hx hb hts hiX0 hown hK hP 0 rfl rfl 6 (by decide) wf32 (fun _ h9 => h9) rfl dX0_gateOf_45 ?_
        refine lv_iconst (v := nI 1) hx hb dX0_gateOf_48 (by decide) ?_
        refine lv_isub hx hb dX0_gateOf_49 ?_
        refine x_top (pk_sub (by omega)) ?_
        refine lv_aload_n hx hb dX0_gateOf_50 rfl (lv_at hl 1 rfl) ?_
        refine va_get (D := D) (ci := 0) (v := .int (nI ic)) (C := RX0) (T := TX0) (N := 8) hx hb hts hiX0 hown hK hP 0 rfl rfl 7 (by decide) wf35 (fun _ h9 => h9) rfl dX0_gateOf_51 ?_
        refine lv_isub hx hb dX0_gateOf_54 ?_
        refine x_top (pk_sub (by omega)) ?_
        refine lv_istore_n (lv' := [(3, .int (nI (l.length - 1 - ic))), (0, .ref h), (1, .int (nI a)), (2, .int (nI b))]) hx hb dX0_gateOf_55 rfl hl (by decide) rfl (fun ls hl => ?_)
        refine lv_iload_n hx hb dX0_gateOf_56 rfl (lv_at hl 0 rfl) ?_
        refine lv_aload_n hx hb dX0_gateOf_57 rfl (lv_at hl 1 rfl) ?_
        refine va_get (D := D) (ci := 0) (v := .int (nI M2)) (C := RX0) (T := TX0) (N := 8) hx hb hts hiX0 hown hK hP 0 rfl rfl 1 (by decide) wf15 (fun _ h9 => h9) rfl dX0_gateOf_58 ?_
        refine lv_icmp_lt (tgt := 68) hx hb dX0_gateOf_61 (by decide) (fun c61 => ?_) (fun c61 => ?_)
        · have c61 := (nI_ltI (by omega) (by omega)).mp c61
          refine lv_aload_n hx hb dX0_gateOf_68 rfl (lv_at hl 1 rfl) ?_
          refine lv_iload_n hx hb dX0_gateOf_69 rfl (lv_at hl 2 rfl) ?_
          refine lv_iload_n hx hb dX0_gateOf_70 rfl (lv_at hl 3 rfl) ?_
          refine x_calli (wc := [(h, .inr (0, [.int (nI M1), .int (nI M2), .ref a1, .ref a2, .ref a3, .ref a4, .int (nI l.length), .int (nI ic)])), (a1, .inl (cyI, (1 + M1 + M2), .inl lf)), (a2, .inl (cyI, (1 + M1 + M2), .inl of)), (a3, .inl (cyI, M1, .inl nf)), (a4, .inl (cyJ, (1 + M1 + M2), .inr (.inl wf)))]) (wr := []) (w2 := fun (u : Unit) => [(h, .inr (0, [.int (nI M1), .int (nI M2), .ref a1, .ref a2, .ref a3, .ref a4, .int (nI (l.length + 1)), .int (nI ic)])), (a1, .inl (cyI, (1 + M1 + M2), .inl (upd lf l.length (nI a)))), (a2, .inl (cyI, (1 + M1 + M2), .inl (upd of l.length (nI b)))), (a3, .inl (cyI, M1, .inl nf)), (a4, .inl (cyJ, (1 + M1 + M2), .inr (.inl wf)))]) [0, 1, 2, 3, 4] [] [0, 1, 2, 3, 4] (va_runV (As := [.int (nI a), .int (nI b)]) (rest := []) ⟨hx, hb, hml, hown, hts⟩ (c_X0_addNode lch D cyI cyJ _ h a1 a2 a3 a4 M1 M2 lf of nf wf l.length ic (nI a) (nI b) (by first | assumption | omega) (by first | assumption | omega)) (cwV 2 hts gX0_gateOf_X0_addNode rfl rfl rfl (by decide +kernel) ⟨Nat.le_of_ble_eq_true rfl, Nat.le_of_ble_eq_true rfl⟩) (x_preV hK hNN (hP.sub (ws' := [(h, .inr (0, [.int (nI M1), .int (nI M2), .ref a1, .ref a2, .ref a3, .ref a4, .int (nI l.length), .int (nI ic)])), (a1, .inl (cyI, (1 + M1 + M2), .inl lf)), (a2, .inl (cyI, (1 + M1 + M2), .inl of)), (a3, .inl (cyI, M1, .inl nf)), (a4, .inl (cyJ, (1 + M1 + M2), .inr (.inl wf)))]) [0, 1, 2, 3, 4] rfl) (hD.sub (ws' := [(h, .inr (0, [.int (nI M1), .int (nI M2), .ref a1, .ref a2, .ref a3, .ref a4, .int (nI l.length), .int (nI ic)])), (a1, .inl (cyI, (1 + M1 + M2), .inl lf)), (a2, .inl (cyI, (1 + M1 + M2), .inl of)), (a3, .inl (cyI, M1, .inl nf)), (a4, .inl (cyJ, (1 + M1 + M2), .inr (.inl wf)))]) [0, 1, 2, 3, 4] (by decide) rfl) rfl rfl (ci := 0) (q0 := 0) rfl rfl rfl) rfl rfl hl.1 rfl (lv_room (Nat.le_of_ble_eq_true rfl)) dX0_gateOf_71 ⟨Nat.le_of_ble_eq_true rfl, Nat.le_of_ble_eq_true rfl⟩) rfl hP hD hS hA rfl rfl (by decide) (by decide) (fun _ => rfl) (by decide) (fun r71 u71 H locs hw71 hP hD hS hz71 => ?_)
          have hP : va_P D vwCl [(h, .inr (0, [.int (nI M1), .int (nI M2), .ref a1, .ref a2, .ref a3, .ref a4, .int (nI (l.length + 1)), .int (nI ic)])), (a1, .inl (cyI, (1 + M1 + M2), .inl (upd lf l.length (nI a)))), (a2, .inl (cyI, (1 + M1 + M2), .inl (upd of l.length (nI b)))), (a3, .inl (cyI, M1, .inl nf)), (a4, .inl (cyJ, (1 + M1 + M2), .inr (.inl wf)))] H := hP
          have hD : va_D A [(h, .inr (0, [.int (nI M1), .int (nI M2), .ref a1, .ref a2, .ref a3, .ref a4, .int (nI (l.length + 1)), .int (nI ic)])), (a1, .inl (cyI, (1 + M1 + M2), .inl (upd lf l.length (nI a)))), (a2, .inl (cyI, (1 + M1 + M2), .inl (upd of l.length (nI b)))), (a3, .inl (cyI, M1, .inl nf)), (a4, .inl (cyJ, (1 + M1 + M2), .inr (.inl wf)))] := hD
          have hw71 : r71 = nI (2 * l.length) := hw71
          subst hw71
          refine W.widen (k := 0) (n := 0) (Nat.le_refl _) (Nat.le_refl _) ?_
          rw [nGate_n (nFind_none (fun j hj => hno j (by omega))) (by omega)] at hQ
          have e2 : l.length + 1 = (l ++ [some (a, b)]).length := by simp
          rw [e2] at hP hD
          exact x_iret hQ hAe hx hb hr hlocks (rfl) hS hK (Nat.le_of_ble_eq_true rfl) (Nat.le_of_ble_eq_true rfl) dX0_gateOf_74 (upd lf l.length (nI a), upd of l.length (nI b)) hP hD (⟨rfl, rpN_snoc hrp (some (a, b))⟩)
        · have c61 := mt (nI_ltI (by omega) (by omega)).mpr c61
          refine lv_iconst (v := (-1)) hx hb dX0_gateOf_64 (by decide) ?_
          refine lv_goto (tgt := 74) hx hb dX0_gateOf_65 (by decide) ?_
          rw [nGate_o (nFind_none (fun j hj => hno j (by omega))) (by omega)] at hQ
          exact x_iret hQ hAe hx hb hr hlocks (rfl) hS hK (Nat.le_of_ble_eq_true rfl) (Nat.le_of_ble_eq_true rfl) dX0_gateOf_74 (lf, of) hP hD (⟨rfl, hrp⟩)
      · have c11 := mt (nI_leI (by omega) (by omega)).mpr c11
        refine lv_aload_n hx hb dX0_gateOf_14 rfl (lv_at hl 1 rfl) ?_
        refine va_get (D := D) (ci := 0) (v := .ref a1) (C := RX0) (T := TX0) (N := 8) hx hb hts hiX0 hown hK hP 0 rfl rfl 2 (by decide) wf18 (fun _ h9 => h9) rfl dX0_gateOf_15 ?_
        refine lv_iload_n hx hb dX0_gateOf_18 rfl (lv_at hl 0 rfl) ?_
        refine x_iald hx hb hK hP 1 0 rfl rfl (by omega) (by omega) dX0_gateOf_19 ?_
        refine x_top (show lf k = gL (nAt l k) from (hrp k (by omega)).1) ?_
        refine lv_iload_n hx hb dX0_gateOf_20 rfl (lv_at hl 2 rfl) ?_
        refine lv_icmp_ne (tgt := 38) hx hb dX0_gateOf_21 (by decide) (fun c21 => ?_) (fun c21 => ?_)
        · refine lv_iinc (v := nI (k + 1)) (lv' := [(3, .int (nI (k + 1))), (0, .ref h), (1, .int (nI a)), (2, .int (nI b))]) hx hb dX0_gateOf_38 hl (k := 0) rfl (n_inc _) (by decide) rfl (fun ls hl => ?_)
          refine lv_goto (tgt := 6) hx hb dX0_gateOf_41 (by decide) ?_
          have hno2 : ∀ j, j < k + 1 → ¬ nAt l j = some (a, b) := by
            intro j hj hz
            by_cases hjk : j = k
            · subst hjk
              first | exact c21 (by rw [hz]; rfl) | exact c31 (by rw [hz]; rfl)
            · exact hno j (by omega) hz
          exact ih (k + 1) (by omega) (by omega) hno2 (by omega) _ _ _ hP hD hS (lv_sub hl [0, 1, 2, 3] rfl)
        · refine lv_aload_n hx hb dX0_gateOf_24 rfl (lv_at hl 1 rfl) ?_
          refine va_get (D := D) (ci := 0) (v := .ref a2) (C := RX0) (T := TX0) (N := 8) hx hb hts hiX0 hown hK hP 0 rfl rfl 3 (by decide) wf22 (fun _ h9 => h9) rfl dX0_gateOf_25 ?_
          refine lv_iload_n hx hb dX0_gateOf_28 rfl (lv_at hl 0 rfl) ?_
          refine x_iald hx hb hK hP 2 0 rfl rfl (by omega) (by omega) dX0_gateOf_29 ?_
          refine x_top (show of k = gR (nAt l k) from (hrp k (by omega)).2) ?_
          refine lv_iload_n hx hb dX0_gateOf_30 rfl (lv_at hl 3 rfl) ?_
          refine lv_icmp_ne (tgt := 38) hx hb dX0_gateOf_31 (by decide) (fun c31 => ?_) (fun c31 => ?_)
          · refine lv_iinc (v := nI (k + 1)) (lv' := [(3, .int (nI (k + 1))), (0, .ref h), (1, .int (nI a)), (2, .int (nI b))]) hx hb dX0_gateOf_38 hl (k := 0) rfl (n_inc _) (by decide) rfl (fun ls hl => ?_)
            refine lv_goto (tgt := 6) hx hb dX0_gateOf_41 (by decide) ?_
            have hno2 : ∀ j, j < k + 1 → ¬ nAt l j = some (a, b) := by
              intro j hj hz
              by_cases hjk : j = k
              · subst hjk
                first | exact c21 (by rw [hz]; rfl) | exact c31 (by rw [hz]; rfl)
              · exact hno j (by omega) hz
            exact ih (k + 1) (by omega) (by omega) hno2 (by omega) _ _ _ hP hD hS (lv_sub hl [0, 1, 2, 3] rfl)
          · refine lv_iconst (v := nI 2) hx hb dX0_gateOf_34 (by decide) ?_
            refine lv_iload_n hx hb dX0_gateOf_35 rfl (lv_at hl 0 rfl) ?_
            refine lv_imul hx hb dX0_gateOf_36 ?_
            refine x_top (pk_mul _ _) ?_
            rw [nGate_f (nFind_some (g_is hok (by omega) (by omega) (by omega) c21 c31) hno)] at hQ
            exact x_iret hQ hAe hx hb hr hlocks (rfl) hS hK (Nat.le_of_ble_eq_true rfl) (Nat.le_of_ble_eq_true rfl) dX0_gateOf_37 (lf, of) hP hD (⟨rfl, hrp⟩)
  exact lp6 _ (b / 2 + 1) (by omega) (by omega) (fun j hj hz => by have := (hok.2.2 j a b hz).2.2; omega) (Nat.lt_succ_self _) _ _ _ hP hD hS (lv_sub hl [0, 1, 2, 3] rfl)
set_option maxHeartbeats 4000000 in
set_option maxRecDepth 100000 in
theorem c_X0_both (lch : Launch) (D : va_G) (cyI cyJ : ClassId) (sz : Nat) (h : Nat) (a1 : Nat) (a2 : Nat) (a3 : Nat) (a4 : Nat) (M1 : Nat) (M2 : Nat) (lf : Nat → Int32) (of : Nat → Int32) (nf : Nat → Int32) (wf : Nat → Int64) (ic : Nat) (l : NT) (x : Int32) (y : Int32) (hok : nOK l) (hrp : rpN l lf of) (hg : nGates l + 1 + ic = l.length) (hgM : nGates l ≤ M2) (hic : ic ≤ M1) (hMM : M1 + M2 < 10000) : Met lch yX0_both wsX0_both ({ frames := 2, cells := 0, slots := 0, locals := 46 } : Room) (va_Pc [.ref h, .int x, .int y] (xA D (xTy cyI cyJ) sz [(h, .inr (0, [.int (nI M1), .int (nI M2), .ref a1, .ref a2, .ref a3, .ref a4, .int (nI l.length), .int (nI ic)])), (a1, .inl (cyI, (1 + M1 + M2), .inl lf)), (a2, .inl (cyI, (1 + M1 + M2), .inl of)), (a3, .inl (cyI, M1, .inl nf)), (a4, .inl (cyJ, (1 + M1 + M2), .inr (.inl wf)))])) (va_Qi (fun (r : Int32) (u : (Nat → Int32) × (Nat → Int32)) => r = eO (nAnd M2 l (dO l.length x) (dO l.length y)).1 ∧ rpN (nAnd M2 l (dO l.length x) (dO l.length y)).2 u.1 u.2) (fun (u : (Nat → Int32) × (Nat → Int32)) t => xB D (xTy cyI cyJ) sz [(h, .inr (0, [.int (nI M1), .int (nI M2), .ref a1, .ref a2, .ref a3, .ref a4, .int (nI l.length), .int (nI ic)])), (a1, .inl (cyI, (1 + M1 + M2), .inl lf)), (a2, .inl (cyI, (1 + M1 + M2), .inl of)), (a3, .inl (cyI, M1, .inl nf)), (a4, .inl (cyJ, (1 + M1 + M2), .inr (.inl wf)))] [(h, .inr (0, [.int (nI M1), .int (nI M2), .ref a1, .ref a2, .ref a3, .ref a4, .int (nI (nAnd M2 l (dO l.length x) (dO l.length y)).2.length), .int (nI ic)])), (a1, .inl (cyI, (1 + M1 + M2), .inl u.1)), (a2, .inl (cyI, (1 + M1 + M2), .inl u.2)), (a3, .inl (cyI, M1, .inl nf)), (a4, .inl (cyJ, (1 + M1 + M2), .inr (.inl wf)))] t) (va_A [(h, .inr (0, [.int (nI M1), .int (nI M2), .ref a1, .ref a2, .ref a3, .ref a4, .int (nI l.length), .int (nI ic)])), (a1, .inl (cyI, (1 + M1 + M2), .inl lf)), (a2, .inl (cyI, (1 + M1 + M2), .inl of)), (a3, .inl (cyI, M1, .inl nf)), (a4, .inl (cyJ, (1 + M1 + M2), .inr (.inl wf)))] sz)) 0 0 (va_A [(h, .inr (0, [.int (nI M1), .int (nI M2), .ref a1, .ref a2, .ref a3, .ref a4, .int (nI l.length), .int (nI ic)])), (a1, .inl (cyI, (1 + M1 + M2), .inl lf)), (a2, .inl (cyI, (1 + M1 + M2), .inl of)), (a3, .inl (cyI, M1, .inl nf)), (a4, .inl (cyJ, (1 + M1 + M2), .inr (.inl wf)))] sz) := by
  refine x_met RX0 (by decide) rfl rfl (Nat.le_of_ble_eq_true rfl) ?_
  intro p e s m below meth c A Q hAe hQ hx hb hr hlocks hml hnm hts hown hNN hK hsz hP hD hS hA ls hl
  have wzX1 := hts (.initialized RX1) (by decide +kernel)
  have ws_yX1_not := hts (.static yX1_not) (by decide +kernel)
  have hP : va_P D vwCl [(h, .inr (0, [.int (nI M1), .int (nI M2), .ref a1, .ref a2, .ref a3, .ref a4, .int (nI l.length), .int (nI ic)])), (a1, .inl (cyI, (1 + M1 + M2), .inl lf)), (a2, .inl (cyI, (1 + M1 + M2), .inl of)), (a3, .inl (cyI, M1, .inl nf)), (a4, .inl (cyJ, (1 + M1 + M2), .inr (.inl wf)))] s.heap := hP
  have hD : va_D A [(h, .inr (0, [.int (nI M1), .int (nI M2), .ref a1, .ref a2, .ref a3, .ref a4, .int (nI l.length), .int (nI ic)])), (a1, .inl (cyI, (1 + M1 + M2), .inl lf)), (a2, .inl (cyI, (1 + M1 + M2), .inl of)), (a3, .inl (cyI, M1, .inl nf)), (a4, .inl (cyJ, (1 + M1 + M2), .inr (.inl wf)))] := hD
  have hl : lv_has ls 3 [(0, .ref h), (1, .int x), (2, .int y)] := hl
  refine lv_aload_n hx hb dX0_both_0 rfl (lv_at hl 0 rfl) ?_
  refine lv_iload_n hx hb dX0_both_1 rfl (lv_at hl 1 rfl) ?_
  refine x_calli (wc := [(h, .inr (0, [.int (nI M1), .int (nI M2), .ref a1, .ref a2, .ref a3, .ref a4, .int (nI l.length), .int (nI ic)])), (a1, .inl (cyI, (1 + M1 + M2), .inl lf)), (a2, .inl (cyI, (1 + M1 + M2), .inl of)), (a3, .inl (cyI, M1, .inl nf)), (a4, .inl (cyJ, (1 + M1 + M2), .inr (.inl wf)))]) (wr := []) (w2 := fun (u : Unit) => [(h, .inr (0, [.int (nI M1), .int (nI M2), .ref a1, .ref a2, .ref a3, .ref a4, .int (nI l.length), .int (nI ic)])), (a1, .inl (cyI, (1 + M1 + M2), .inl lf)), (a2, .inl (cyI, (1 + M1 + M2), .inl of)), (a3, .inl (cyI, M1, .inl nf)), (a4, .inl (cyJ, (1 + M1 + M2), .inr (.inl wf)))]) [0, 1, 2, 3, 4] [] [0, 1, 2, 3, 4] (va_runV (As := [.int x]) (rest := []) ⟨hx, hb, hml, hown, hts⟩ (c_X0_holds lch D cyI cyJ _ h a1 a2 a3 a4 M1 M2 lf of nf wf l.length ic x (by first | assumption | omega)) (cwV 1 hts gX0_both_X0_holds rfl rfl rfl (by decide +kernel) ⟨Nat.le_of_ble_eq_true rfl, Nat.le_of_ble_eq_true rfl⟩) (x_preV hK hNN (hP.sub (ws' := [(h, .inr (0, [.int (nI M1), .int (nI M2), .ref a1, .ref a2, .ref a3, .ref a4, .int (nI l.length), .int (nI ic)])), (a1, .inl (cyI, (1 + M1 + M2), .inl lf)), (a2, .inl (cyI, (1 + M1 + M2), .inl of)), (a3, .inl (cyI, M1, .inl nf)), (a4, .inl (cyJ, (1 + M1 + M2), .inr (.inl wf)))]) [0, 1, 2, 3, 4] rfl) (hD.sub (ws' := [(h, .inr (0, [.int (nI M1), .int (nI M2), .ref a1, .ref a2, .ref a3, .ref a4, .int (nI l.length), .int (nI ic)])), (a1, .inl (cyI, (1 + M1 + M2), .inl lf)), (a2, .inl (cyI, (1 + M1 + M2), .inl of)), (a3, .inl (cyI, M1, .inl nf)), (a4, .inl (cyJ, (1 + M1 + M2), .inr (.inl wf)))]) [0, 1, 2, 3, 4] (by decide) rfl) rfl rfl (ci := 0) (q0 := 0) rfl rfl rfl) rfl rfl hl.1 rfl (lv_room (Nat.le_of_ble_eq_true rfl)) dX0_both_2 ⟨Nat.le_of_ble_eq_true rfl, Nat.le_of_ble_eq_true rfl⟩) rfl hP hD hS hA rfl rfl (by decide) (by decide) (fun _ => rfl) (by decide) (fun r2 u2 H locs hw2 hP hD hS hz2 => ?_)
  have hP : va_P D vwCl [(h, .inr (0, [.int (nI M1), .int (nI M2), .ref a1, .ref a2, .ref a3, .ref a4, .int (nI l.length), .int (nI ic)])), (a1, .inl (cyI, (1 + M1 + M2), .inl lf)), (a2, .inl (cyI, (1 + M1 + M2), .inl of)), (a3, .inl (cyI, M1, .inl nf)), (a4, .inl (cyJ, (1 + M1 + M2), .inr (.inl wf)))] H := hP
  have hD : va_D A [(h, .inr (0, [.int (nI M1), .int (nI M2), .ref a1, .ref a2, .ref a3, .ref a4, .int (nI l.length), .int (nI ic)])), (a1, .inl (cyI, (1 + M1 + M2), .inl lf)), (a2, .inl (cyI, (1 + M1 + M2), .inl of)), (a3, .inl (cyI, M1, .inl nf)), (a4, .inl (cyJ, (1 + M1 + M2), .inr (.inl wf)))] := hD
  have hw2 : r2 = bI (0 ≤ x ∧ x < nI (2 * l.length)) := hw2
  subst hw2
  refine W.widen (k := 0) (n := 0) (Nat.le_refl _) (Nat.le_refl _) ?_
  refine lv_if_eq (tgt := 16) hx hb dX0_both_5 (by decide) (fun c5 => ?_) (fun c5 => ?_)
  · have c5 := bI_0.mp c5
    refine lv_iconst (v := (-1)) hx hb dX0_both_16 (by decide) ?_
    rw [dO_no c5, nAnd_l] at hQ
    exact x_iret hQ hAe hx hb hr hlocks (rfl) hS hK (Nat.le_of_ble_eq_true rfl) (Nat.le_of_ble_eq_true rfl) dX0_both_17 (lf, of) hP hD (⟨rfl, hrp⟩)
  · have c5 := Decidable.not_not.mp (mt bI_0.mpr c5)
    refine lv_aload_n hx hb dX0_both_8 rfl (lv_at hl 0 rfl) ?_
    refine lv_iload_n hx hb dX0_both_9 rfl (lv_at hl 2 rfl) ?_
    refine x_calli (wc := [(h, .inr (0, [.int (nI M1), .int (nI M2), .ref a1, .ref a2, .ref a3, .ref a4, .int (nI l.length), .int (nI ic)])), (a1, .inl (cyI, (1 + M1 + M2), .inl lf)), (a2, .inl (cyI, (1 + M1 + M2), .inl of)), (a3, .inl (cyI, M1, .inl nf)), (a4, .inl (cyJ, (1 + M1 + M2), .inr (.inl wf)))]) (wr := []) (w2 := fun (u : Unit) => [(h, .inr (0, [.int (nI M1), .int (nI M2), .ref a1, .ref a2, .ref a3, .ref a4, .int (nI l.length), .int (nI ic)])), (a1, .inl (cyI, (1 + M1 + M2), .inl lf)), (a2, .inl (cyI, (1 + M1 + M2), .inl of)), (a3, .inl (cyI, M1, .inl nf)), (a4, .inl (cyJ, (1 + M1 + M2), .inr (.inl wf)))]) [0, 1, 2, 3, 4] [] [0, 1, 2, 3, 4] (va_runV (As := [.int y]) (rest := []) ⟨hx, hb, hml, hown, hts⟩ (c_X0_holds lch D cyI cyJ _ h a1 a2 a3 a4 M1 M2 lf of nf wf l.length ic y (by first | assumption | omega)) (cwV 1 hts gX0_both_X0_holds rfl rfl rfl (by decide +kernel) ⟨Nat.le_of_ble_eq_true rfl, Nat.le_of_ble_eq_true rfl⟩) (x_preV hK hNN (hP.sub (ws' := [(h, .inr (0, [.int (nI M1), .int (nI M2), .ref a1, .ref a2, .ref a3, .ref a4, .int (nI l.length), .int (nI ic)])), (a1, .inl (cyI, (1 + M1 + M2), .inl lf)), (a2, .inl (cyI, (1 + M1 + M2), .inl of)), (a3, .inl (cyI, M1, .inl nf)), (a4, .inl (cyJ, (1 + M1 + M2), .inr (.inl wf)))]) [0, 1, 2, 3, 4] rfl) (hD.sub (ws' := [(h, .inr (0, [.int (nI M1), .int (nI M2), .ref a1, .ref a2, .ref a3, .ref a4, .int (nI l.length), .int (nI ic)])), (a1, .inl (cyI, (1 + M1 + M2), .inl lf)), (a2, .inl (cyI, (1 + M1 + M2), .inl of)), (a3, .inl (cyI, M1, .inl nf)), (a4, .inl (cyJ, (1 + M1 + M2), .inr (.inl wf)))]) [0, 1, 2, 3, 4] (by decide) rfl) rfl rfl (ci := 0) (q0 := 0) rfl rfl rfl) rfl rfl hl.1 rfl (lv_room (Nat.le_of_ble_eq_true rfl)) dX0_both_10 ⟨Nat.le_of_ble_eq_true rfl, Nat.le_of_ble_eq_true rfl⟩) rfl hP hD hS hA rfl rfl (by decide) (by decide) (fun _ => rfl) (by decide) (fun r10 u10 H locs hw10 hP hD hS hz10 => ?_)
    have hP : va_P D vwCl [(h, .inr (0, [.int (nI M1), .int (nI M2), .ref a1, .ref a2, .ref a3, .ref a4, .int (nI l.length), .int (nI ic)])), (a1, .inl (cyI, (1 + M1 + M2), .inl lf)), (a2, .inl (cyI, (1 + M1 + M2), .inl of)), (a3, .inl (cyI, M1, .inl nf)), (a4, .inl (cyJ, (1 + M1 + M2), .inr (.inl wf)))] H := hP
    have hD : va_D A [(h, .inr (0, [.int (nI M1), .int (nI M2), .ref a1, .ref a2, .ref a3, .ref a4, .int (nI l.length), .int (nI ic)])), (a1, .inl (cyI, (1 + M1 + M2), .inl lf)), (a2, .inl (cyI, (1 + M1 + M2), .inl of)), (a3, .inl (cyI, M1, .inl nf)), (a4, .inl (cyJ, (1 + M1 + M2), .inr (.inl wf)))] := hD
    have hw10 : r10 = bI (0 ≤ y ∧ y < nI (2 * l.length)) := hw10
    subst hw10
    refine W.widen (k := 0) (n := 0) (Nat.le_refl _) (Nat.le_refl _) ?_
    refine lv_if_ne (tgt := 18) hx hb dX0_both_13 (by decide) (fun c13 => ?_) (fun c13 => ?_)
    · have c13 := Decidable.not_not.mp (mt bI_0.mpr c13)
      obtain ⟨ka, hka, rfl, ea, -⟩ := (dO_cases (show l.length < 100000 by omega) x).resolve_left (fun z => z.1 c5)
      obtain ⟨kb, hkb, rfl, eb, -⟩ := (dO_cases (show l.length < 100000 by omega) y).resolve_left (fun z => z.1 c13)
      have hnb : nNeg kb < 2 * l.length := nNeg_lt hkb
      rw [ea, eb] at hQ
      refine lv_iload_n hx hb dX0_both_18 rfl (lv_at hl 1 rfl) ?_
      refine lv_if_eq (tgt := 34) hx hb dX0_both_19 (by decide) (fun c19 => ?_) (fun c19 => ?_)
      · have c19 := (n0_eq (by omega)).mp c19
        refine lv_iconst (v := nI 0) hx hb dX0_both_34 (by decide) ?_
        rw [nAnd_0 (by first | exact Or.inl c19 | exact Or.inr (Or.inl c23) | exact Or.inr (Or.inr c31))] at hQ
        exact x_iret hQ hAe hx hb hr hlocks (rfl) hS hK (Nat.le_of_ble_eq_true rfl) (Nat.le_of_ble_eq_true rfl) dX0_both_35 (lf, of) hP hD (⟨rfl, hrp⟩)
      · have c19 := mt (n0_eq (by omega)).mpr c19
        refine lv_iload_n hx hb dX0_both_22 rfl (lv_at hl 2 rfl) ?_
        refine lv_if_eq (tgt := 34) hx hb dX0_both_23 (by decide) (fun c23 => ?_) (fun c23 => ?_)
        · have c23 := (n0_eq (by omega)).mp c23
          refine lv_iconst (v := nI 0) hx hb dX0_both_34 (by decide) ?_
          rw [nAnd_0 (by first | exact Or.inl c19 | exact Or.inr (Or.inl c23) | exact Or.inr (Or.inr c31))] at hQ
          exact x_iret hQ hAe hx hb hr hlocks (rfl) hS hK (Nat.le_of_ble_eq_true rfl) (Nat.le_of_ble_eq_true rfl) dX0_both_35 (lf, of) hP hD (⟨rfl, hrp⟩)
        · have c23 := mt (n0_eq (by omega)).mpr c23
          refine lv_iload_n hx hb dX0_both_26 rfl (lv_at hl 1 rfl) ?_
          refine lv_iload_n hx hb dX0_both_27 rfl (lv_at hl 2 rfl) ?_
          refine x_calli (wc := []) (wr := [(h, .inr (0, [.int (nI M1), .int (nI M2), .ref a1, .ref a2, .ref a3, .ref a4, .int (nI l.length), .int (nI ic)])), (a1, .inl (cyI, (1 + M1 + M2), .inl lf)), (a2, .inl (cyI, (1 + M1 + M2), .inl of)), (a3, .inl (cyI, M1, .inl nf)), (a4, .inl (cyJ, (1 + M1 + M2), .inr (.inl wf)))]) (w2 := fun (u : Unit) => [(h, .inr (0, [.int (nI M1), .int (nI M2), .ref a1, .ref a2, .ref a3, .ref a4, .int (nI l.length), .int (nI ic)])), (a1, .inl (cyI, (1 + M1 + M2), .inl lf)), (a2, .inl (cyI, (1 + M1 + M2), .inl of)), (a3, .inl (cyI, M1, .inl nf)), (a4, .inl (cyJ, (1 + M1 + M2), .inr (.inl wf)))]) [] [0, 1, 2, 3, 4] [0, 1, 2, 3, 4] (va_runSN (As := [.int (nI kb)]) (rest := [.int (nI ka)]) ⟨hx, hb, hml, hown, hts⟩ (c_X1_not lch D cyI cyJ _ (nI kb) ) ⟨va_cnB 1 hts gX0_both_X1_not_n46 rfl rfl rfl (hNN.at (.methodLinkNest "NetTwin$Net" 46 yX1_not "NetTwin") (by decide +kernel)) wzX1 (by decide +kernel) ⟨Nat.le_of_ble_eq_true rfl, Nat.le_of_ble_eq_true rfl⟩, ws_yX1_not, trivial⟩ (x_pre hK hNN (hP.sub (ws' := []) [] rfl) (hD.sub (ws' := []) [] (by decide) rfl) rfl rfl) rfl rfl hl.1 rfl (lv_room (Nat.le_of_ble_eq_true rfl)) dX0_both_28 ⟨Nat.le_of_ble_eq_true rfl, Nat.le_of_ble_eq_true rfl⟩) rfl hP hD hS hA rfl rfl (by decide) (by decide) (fun _ => rfl) (by decide) (fun r28 u28 H locs hw28 hP hD hS hz28 => ?_)
          have hP : va_P D vwCl [(h, .inr (0, [.int (nI M1), .int (nI M2), .ref a1, .ref a2, .ref a3, .ref a4, .int (nI l.length), .int (nI ic)])), (a1, .inl (cyI, (1 + M1 + M2), .inl lf)), (a2, .inl (cyI, (1 + M1 + M2), .inl of)), (a3, .inl (cyI, M1, .inl nf)), (a4, .inl (cyJ, (1 + M1 + M2), .inr (.inl wf)))] H := hP
          have hD : va_D A [(h, .inr (0, [.int (nI M1), .int (nI M2), .ref a1, .ref a2, .ref a3, .ref a4, .int (nI l.length), .int (nI ic)])), (a1, .inl (cyI, (1 + M1 + M2), .inl lf)), (a2, .inl (cyI, (1 + M1 + M2), .inl of)), (a3, .inl (cyI, M1, .inl nf)), (a4, .inl (cyJ, (1 + M1 + M2), .inr (.inl wf)))] := hD
          have hw28 : r28 = notI (nI kb) := hw28
          subst hw28
          refine W.widen (k := 0) (n := 0) (Nat.le_refl _) (Nat.le_refl _) ?_
          refine x_top (show notI (nI kb) = nI (nNeg kb) from notI_nI (by omega)) ?_
          refine lv_icmp_ne (tgt := 36) hx hb dX0_both_31 (by decide) (fun c31 => ?_) (fun c31 => ?_)
          · have c31 := mt (nI_eq (by omega) (by omega)).mpr c31
            refine lv_iload_n hx hb dX0_both_36 rfl (lv_at hl 2 rfl) ?_
            refine lv_iconst (v := nI 0) hx hb dX0_both_37 (by decide) ?_
            refine x_calli (wc := []) (wr := [(h, .inr (0, [.int (nI M1), .int (nI M2), .ref a1, .ref a2, .ref a3, .ref a4, .int (nI l.length), .int (nI ic)])), (a1, .inl (cyI, (1 + M1 + M2), .inl lf)), (a2, .inl (cyI, (1 + M1 + M2), .inl of)), (a3, .inl (cyI, M1, .inl nf)), (a4, .inl (cyJ, (1 + M1 + M2), .inr (.inl wf)))]) (w2 := fun (u : Unit) => [(h, .inr (0, [.int (nI M1), .int (nI M2), .ref a1, .ref a2, .ref a3, .ref a4, .int (nI l.length), .int (nI ic)])), (a1, .inl (cyI, (1 + M1 + M2), .inl lf)), (a2, .inl (cyI, (1 + M1 + M2), .inl of)), (a3, .inl (cyI, M1, .inl nf)), (a4, .inl (cyJ, (1 + M1 + M2), .inr (.inl wf)))]) [] [0, 1, 2, 3, 4] [0, 1, 2, 3, 4] (va_runSN (As := [.int (nI 0)]) (rest := [.int (nI kb)]) ⟨hx, hb, hml, hown, hts⟩ (c_X1_not lch D cyI cyJ _ (nI 0) ) ⟨va_cnB 1 hts gX0_both_X1_not_n46 rfl rfl rfl (hNN.at (.methodLinkNest "NetTwin$Net" 46 yX1_not "NetTwin") (by decide +kernel)) wzX1 (by decide +kernel) ⟨Nat.le_of_ble_eq_true rfl, Nat.le_of_ble_eq_true rfl⟩, ws_yX1_not, trivial⟩ (x_pre hK hNN (hP.sub (ws' := []) [] rfl) (hD.sub (ws' := []) [] (by decide) rfl) rfl rfl) rfl rfl hl.1 rfl (lv_room (Nat.le_of_ble_eq_true rfl)) dX0_both_38 ⟨Nat.le_of_ble_eq_true rfl, Nat.le_of_ble_eq_true rfl⟩) rfl hP hD hS hA rfl rfl (by decide) (by decide) (fun _ => rfl) (by decide) (fun r38 u38 H locs hw38 hP hD hS hz38 => ?_)
            have hP : va_P D vwCl [(h, .inr (0, [.int (nI M1), .int (nI M2), .ref a1, .ref a2, .ref a3, .ref a4, .int (nI l.length), .int (nI ic)])), (a1, .inl (cyI, (1 + M1 + M2), .inl lf)), (a2, .inl (cyI, (1 + M1 + M2), .inl of)), (a3, .inl (cyI, M1, .inl nf)), (a4, .inl (cyJ, (1 + M1 + M2), .inr (.inl wf)))] H := hP
            have hD : va_D A [(h, .inr (0, [.int (nI M1), .int (nI M2), .ref a1, .ref a2, .ref a3, .ref a4, .int (nI l.length), .int (nI ic)])), (a1, .inl (cyI, (1 + M1 + M2), .inl lf)), (a2, .inl (cyI, (1 + M1 + M2), .inl of)), (a3, .inl (cyI, M1, .inl nf)), (a4, .inl (cyJ, (1 + M1 + M2), .inr (.inl wf)))] := hD
            have hw38 : r38 = notI (nI 0) := hw38
            subst hw38
            refine W.widen (k := 0) (n := 0) (Nat.le_refl _) (Nat.le_refl _) ?_
            refine x_top (show notI (nI 0) = nI 1 from by decide) ?_
            refine lv_icmp_eq (tgt := 49) hx hb dX0_both_41 (by decide) (fun c41 => ?_) (fun c41 => ?_)
            · have c41 := (nI_eq (by omega) (by omega)).mp c41
              refine lv_iload_n hx hb dX0_both_49 rfl (lv_at hl 1 rfl) ?_
              rw [nAnd_a (fun z => z.elim c19 (fun z => z.elim c23 c31)) (by first | exact Or.inl c41 | exact Or.inr c46)] at hQ
              exact x_iret hQ hAe hx hb hr hlocks (rfl) hS hK (Nat.le_of_ble_eq_true rfl) (Nat.le_of_ble_eq_true rfl) dX0_both_50 (lf, of) hP hD (⟨rfl, hrp⟩)
            · have c41 := mt (nI_eq (by omega) (by omega)).mpr c41
              refine lv_iload_n hx hb dX0_both_44 rfl (lv_at hl 1 rfl) ?_
              refine lv_iload_n hx hb dX0_both_45 rfl (lv_at hl 2 rfl) ?_
              refine lv_icmp_ne (tgt := 51) hx hb dX0_both_46 (by decide) (fun c46 => ?_) (fun c46 => ?_)
              · have c46 := mt (nI_eq (by omega) (by omega)).mpr c46
                refine lv_iload_n hx hb dX0_both_51 rfl (lv_at hl 1 rfl) ?_
                refine lv_iconst (v := nI 0) hx hb dX0_both_52 (by decide) ?_
                refine x_calli (wc := []) (wr := [(h, .inr (0, [.int (nI M1), .int (nI M2), .ref a1, .ref a2, .ref a3, .ref a4, .int (nI l.length), .int (nI ic)])), (a1, .inl (cyI, (1 + M1 + M2), .inl lf)), (a2, .inl (cyI, (1 + M1 + M2), .inl of)), (a3, .inl (cyI, M1, .inl nf)), (a4, .inl (cyJ, (1 + M1 + M2), .inr (.inl wf)))]) (w2 := fun (u : Unit) => [(h, .inr (0, [.int (nI M1), .int (nI M2), .ref a1, .ref a2, .ref a3, .ref a4, .int (nI l.length), .int (nI ic)])), (a1, .inl (cyI, (1 + M1 + M2), .inl lf)), (a2, .inl (cyI, (1 + M1 + M2), .inl of)), (a3, .inl (cyI, M1, .inl nf)), (a4, .inl (cyJ, (1 + M1 + M2), .inr (.inl wf)))]) [] [0, 1, 2, 3, 4] [0, 1, 2, 3, 4] (va_runSN (As := [.int (nI 0)]) (rest := [.int (nI ka)]) ⟨hx, hb, hml, hown, hts⟩ (c_X1_not lch D cyI cyJ _ (nI 0) ) ⟨va_cnB 1 hts gX0_both_X1_not_n46 rfl rfl rfl (hNN.at (.methodLinkNest "NetTwin$Net" 46 yX1_not "NetTwin") (by decide +kernel)) wzX1 (by decide +kernel) ⟨Nat.le_of_ble_eq_true rfl, Nat.le_of_ble_eq_true rfl⟩, ws_yX1_not, trivial⟩ (x_pre hK hNN (hP.sub (ws' := []) [] rfl) (hD.sub (ws' := []) [] (by decide) rfl) rfl rfl) rfl rfl hl.1 rfl (lv_room (Nat.le_of_ble_eq_true rfl)) dX0_both_53 ⟨Nat.le_of_ble_eq_true rfl, Nat.le_of_ble_eq_true rfl⟩) rfl hP hD hS hA rfl rfl (by decide) (by decide) (fun _ => rfl) (by decide) (fun r53 u53 H locs hw53 hP hD hS hz53 => ?_)
                have hP : va_P D vwCl [(h, .inr (0, [.int (nI M1), .int (nI M2), .ref a1, .ref a2, .ref a3, .ref a4, .int (nI l.length), .int (nI ic)])), (a1, .inl (cyI, (1 + M1 + M2), .inl lf)), (a2, .inl (cyI, (1 + M1 + M2), .inl of)), (a3, .inl (cyI, M1, .inl nf)), (a4, .inl (cyJ, (1 + M1 + M2), .inr (.inl wf)))] H := hP
                have hD : va_D A [(h, .inr (0, [.int (nI M1), .int (nI M2), .ref a1, .ref a2, .ref a3, .ref a4, .int (nI l.length), .int (nI ic)])), (a1, .inl (cyI, (1 + M1 + M2), .inl lf)), (a2, .inl (cyI, (1 + M1 + M2), .inl of)), (a3, .inl (cyI, M1, .inl nf)), (a4, .inl (cyJ, (1 + M1 + M2), .inr (.inl wf)))] := hD
                have hw53 : r53 = notI (nI 0) := hw53
                subst hw53
                refine W.widen (k := 0) (n := 0) (Nat.le_refl _) (Nat.le_refl _) ?_
                refine x_top (show notI (nI 0) = nI 1 from by decide) ?_
                refine lv_icmp_ne (tgt := 61) hx hb dX0_both_56 (by decide) (fun c56 => ?_) (fun c56 => ?_)
                · have c56 := mt (nI_eq (by omega) (by omega)).mpr c56
                  refine lv_iload_n hx hb dX0_both_61 rfl (lv_at hl 1 rfl) ?_
                  refine lv_iload_n hx hb dX0_both_62 rfl (lv_at hl 2 rfl) ?_
                  refine lv_icmp_ge (tgt := 75) hx hb dX0_both_63 (by decide) (fun c63 => ?_) (fun c63 => ?_)
                  · have c63 := (nI_leI (by omega) (by omega)).mp c63
                    refine lv_aload_n hx hb dX0_both_75 rfl (lv_at hl 0 rfl) ?_
                    refine lv_iload_n hx hb dX0_both_76 rfl (lv_at hl 2 rfl) ?_
                    refine lv_iload_n hx hb dX0_both_77 rfl (lv_at hl 1 rfl) ?_
                    refine x_calli (wc := [(h, .inr (0, [.int (nI M1), .int (nI M2), .ref a1, .ref a2, .ref a3, .ref a4, .int (nI l.length), .int (nI ic)])), (a1, .inl (cyI, (1 + M1 + M2), .inl lf)), (a2, .inl (cyI, (1 + M1 + M2), .inl of)), (a3, .inl (cyI, M1, .inl nf)), (a4, .inl (cyJ, (1 + M1 + M2), .inr (.inl wf)))]) (wr := []) (w2 := fun (u : (Nat → Int32) × (Nat → Int32)) => [(h, .inr (0, [.int (nI M1), .int (nI M2), .ref a1, .ref a2, .ref a3, .ref a4, .int (nI (nGate M2 l kb ka).2.length), .int (nI ic)])), (a1, .inl (cyI, (1 + M1 + M2), .inl u.1)), (a2, .inl (cyI, (1 + M1 + M2), .inl u.2)), (a3, .inl (cyI, M1, .inl nf)), (a4, .inl (cyJ, (1 + M1 + M2), .inr (.inl wf)))]) [0, 1, 2, 3, 4] [] [0, 1, 2, 3, 4] (va_runV (As := [.int (nI kb), .int (nI ka)]) (rest := []) ⟨hx, hb, hml, hown, hts⟩ (c_X0_gateOf lch D cyI cyJ _ h a1 a2 a3 a4 M1 M2 lf of nf wf ic l kb ka (by first | assumption | omega) (by first | assumption | omega) (by first | assumption | omega) (by first | assumption | omega) (by first | assumption | omega) (by first | assumption | omega) (by first | assumption | omega) (by first | assumption | omega) (by first | assumption | omega)) (cwV 2 hts gX0_both_X0_gateOf rfl rfl rfl (by decide +kernel) ⟨Nat.le_of_ble_eq_true rfl, Nat.le_of_ble_eq_true rfl⟩) (x_preV hK hNN (hP.sub (ws' := [(h, .inr (0, [.int (nI M1), .int (nI M2), .ref a1, .ref a2, .ref a3, .ref a4, .int (nI l.length), .int (nI ic)])), (a1, .inl (cyI, (1 + M1 + M2), .inl lf)), (a2, .inl (cyI, (1 + M1 + M2), .inl of)), (a3, .inl (cyI, M1, .inl nf)), (a4, .inl (cyJ, (1 + M1 + M2), .inr (.inl wf)))]) [0, 1, 2, 3, 4] rfl) (hD.sub (ws' := [(h, .inr (0, [.int (nI M1), .int (nI M2), .ref a1, .ref a2, .ref a3, .ref a4, .int (nI l.length), .int (nI ic)])), (a1, .inl (cyI, (1 + M1 + M2), .inl lf)), (a2, .inl (cyI, (1 + M1 + M2), .inl of)), (a3, .inl (cyI, M1, .inl nf)), (a4, .inl (cyJ, (1 + M1 + M2), .inr (.inl wf)))]) [0, 1, 2, 3, 4] (by decide) rfl) rfl rfl (ci := 0) (q0 := 0) rfl rfl rfl) rfl rfl hl.1 rfl (lv_room (Nat.le_of_ble_eq_true rfl)) dX0_both_78 ⟨Nat.le_of_ble_eq_true rfl, Nat.le_of_ble_eq_true rfl⟩) rfl hP hD hS hA rfl rfl (by decide) (by decide) (fun _ => rfl) (by decide) (fun r78 u78 H locs hw78 hP hD hS hz78 => ?_)
                    obtain ⟨lf2_78, of2_78⟩ := u78
                    have hP : va_P D vwCl [(h, .inr (0, [.int (nI M1), .int (nI M2), .ref a1, .ref a2, .ref a3, .ref a4, .int (nI (nGate M2 l kb ka).2.length), .int (nI ic)])), (a1, .inl (cyI, (1 + M1 + M2), .inl lf2_78)), (a2, .inl (cyI, (1 + M1 + M2), .inl of2_78)), (a3, .inl (cyI, M1, .inl nf)), (a4, .inl (cyJ, (1 + M1 + M2), .inr (.inl wf)))] H := hP
                    have hD : va_D A [(h, .inr (0, [.int (nI M1), .int (nI M2), .ref a1, .ref a2, .ref a3, .ref a4, .int (nI (nGate M2 l kb ka).2.length), .int (nI ic)])), (a1, .inl (cyI, (1 + M1 + M2), .inl lf2_78)), (a2, .inl (cyI, (1 + M1 + M2), .inl of2_78)), (a3, .inl (cyI, M1, .inl nf)), (a4, .inl (cyJ, (1 + M1 + M2), .inr (.inl wf)))] := hD
                    have hw78 : r78 = eO (nGate M2 l kb ka).1 ∧ rpN (nGate M2 l kb ka).2 lf2_78 of2_78 := hw78
                    obtain ⟨rfl, h78_1⟩ := hw78
                    refine W.widen (k := 0) (n := 0) (Nat.le_refl _) (Nat.le_refl _) ?_
                    rw [nAnd_h (fun z => z.elim c19 (fun z => z.elim c23 c31)) (fun z => z.elim c41 c46) c56 (by omega)] at hQ
                    exact x_iret hQ hAe hx hb hr hlocks (rfl) hS hK (Nat.le_of_ble_eq_true rfl) (Nat.le_of_ble_eq_true rfl) dX0_both_81 (lf2_78, of2_78) hP hD (⟨rfl, h78_1⟩)
                  · have c63 := mt (nI_leI (by omega) (by omega)).mpr c63
                    refine lv_aload_n hx hb dX0_both_66 rfl (lv_at hl 0 rfl) ?_
                    refine lv_iload_n hx hb dX0_both_67 rfl (lv_at hl 1 rfl) ?_
                    refine lv_iload_n hx hb dX0_both_68 rfl (lv_at hl 2 rfl) ?_
                    refine x_calli (wc := [(h, .inr (0, [.int (nI M1), .int (nI M2), .ref a1, .ref a2, .ref a3, .ref a4, .int (nI l.length), .int (nI ic)])), (a1, .inl (cyI, (1 + M1 + M2), .inl lf)), (a2, .inl (cyI, (1 + M1 + M2), .inl of)), (a3, .inl (cyI, M1, .inl nf)), (a4, .inl (cyJ, (1 + M1 + M2), .inr (.inl wf)))]) (wr := []) (w2 := fun (u : (Nat → Int32) × (Nat → Int32)) => [(h, .inr (0, [.int (nI M1), .int (nI M2), .ref a1, .ref a2, .ref a3, .ref a4, .int (nI (nGate M2 l ka kb).2.length), .int (nI ic)])), (a1, .inl (cyI, (1 + M1 + M2), .inl u.1)), (a2, .inl (cyI, (1 + M1 + M2), .inl u.2)), (a3, .inl (cyI, M1, .inl nf)), (a4, .inl (cyJ, (1 + M1 + M2), .inr (.inl wf)))]) [0, 1, 2, 3, 4] [] [0, 1, 2, 3, 4] (va_runV (As := [.int (nI ka), .int (nI kb)]) (rest := []) ⟨hx, hb, hml, hown, hts⟩ (c_X0_gateOf lch D cyI cyJ _ h a1 a2 a3 a4 M1 M2 lf of nf wf ic l ka kb (by first | assumption | omega) (by first | assumption | omega) (by first | assumption | omega) (by first | assumption | omega) (by first | assumption | omega) (by first | assumption | omega) (by first | assumption | omega) (by first | assumption | omega) (by first | assumption | omega)) (cwV 2 hts gX0_both_X0_gateOf rfl rfl rfl (by decide +kernel) ⟨Nat.le_of_ble_eq_true rfl, Nat.le_of_ble_eq_true rfl⟩) (x_preV hK hNN (hP.sub (ws' := [(h, .inr (0, [.int (nI M1), .int (nI M2), .ref a1, .ref a2, .ref a3, .ref a4, .int (nI l.length), .int (nI ic)])), (a1, .inl (cyI, (1 + M1 + M2), .inl lf)), (a2, .inl (cyI, (1 + M1 + M2), .inl of)), (a3, .inl (cyI, M1, .inl nf)), (a4, .inl (cyJ, (1 + M1 + M2), .inr (.inl wf)))]) [0, 1, 2, 3, 4] rfl) (hD.sub (ws' := [(h, .inr (0, [.int (nI M1), .int (nI M2), .ref a1, .ref a2, .ref a3, .ref a4, .int (nI l.length), .int (nI ic)])), (a1, .inl (cyI, (1 + M1 + M2), .inl lf)), (a2, .inl (cyI, (1 + M1 + M2), .inl of)), (a3, .inl (cyI, M1, .inl nf)), (a4, .inl (cyJ, (1 + M1 + M2), .inr (.inl wf)))]) [0, 1, 2, 3, 4] (by decide) rfl) rfl rfl (ci := 0) (q0 := 0) rfl rfl rfl) rfl rfl hl.1 rfl (lv_room (Nat.le_of_ble_eq_true rfl)) dX0_both_69 ⟨Nat.le_of_ble_eq_true rfl, Nat.le_of_ble_eq_true rfl⟩) rfl hP hD hS hA rfl rfl (by decide) (by decide) (fun _ => rfl) (by decide) (fun r69 u69 H locs hw69 hP hD hS hz69 => ?_)
                    obtain ⟨lf2_69, of2_69⟩ := u69
                    have hP : va_P D vwCl [(h, .inr (0, [.int (nI M1), .int (nI M2), .ref a1, .ref a2, .ref a3, .ref a4, .int (nI (nGate M2 l ka kb).2.length), .int (nI ic)])), (a1, .inl (cyI, (1 + M1 + M2), .inl lf2_69)), (a2, .inl (cyI, (1 + M1 + M2), .inl of2_69)), (a3, .inl (cyI, M1, .inl nf)), (a4, .inl (cyJ, (1 + M1 + M2), .inr (.inl wf)))] H := hP
                    have hD : va_D A [(h, .inr (0, [.int (nI M1), .int (nI M2), .ref a1, .ref a2, .ref a3, .ref a4, .int (nI (nGate M2 l ka kb).2.length), .int (nI ic)])), (a1, .inl (cyI, (1 + M1 + M2), .inl lf2_69)), (a2, .inl (cyI, (1 + M1 + M2), .inl of2_69)), (a3, .inl (cyI, M1, .inl nf)), (a4, .inl (cyJ, (1 + M1 + M2), .inr (.inl wf)))] := hD
                    have hw69 : r69 = eO (nGate M2 l ka kb).1 ∧ rpN (nGate M2 l ka kb).2 lf2_69 of2_69 := hw69
                    obtain ⟨rfl, h69_1⟩ := hw69
                    refine W.widen (k := 0) (n := 0) (Nat.le_refl _) (Nat.le_refl _) ?_
                    refine lv_goto (tgt := 81) hx hb dX0_both_72 (by decide) ?_
                    rw [nAnd_g (fun z => z.elim c19 (fun z => z.elim c23 c31)) (fun z => z.elim c41 c46) c56 (by omega)] at hQ
                    exact x_iret hQ hAe hx hb hr hlocks (rfl) hS hK (Nat.le_of_ble_eq_true rfl) (Nat.le_of_ble_eq_true rfl) dX0_both_81 (lf2_69, of2_69) hP hD (⟨rfl, h69_1⟩)
                · have c56 := (nI_eq (by omega) (by omega)).mp c56
                  refine lv_iload_n hx hb dX0_both_59 rfl (lv_at hl 2 rfl) ?_
                  rw [nAnd_b (fun z => z.elim c19 (fun z => z.elim c23 c31)) (fun z => z.elim c41 c46) c56] at hQ
                  exact x_iret hQ hAe hx hb hr hlocks (rfl) hS hK (Nat.le_of_ble_eq_true rfl) (Nat.le_of_ble_eq_true rfl) dX0_both_60 (lf, of) hP hD (⟨rfl, hrp⟩)
              · have c46 := (nI_eq (by omega) (by omega)).mp c46
                refine lv_iload_n hx hb dX0_both_49 rfl (lv_at hl 1 rfl) ?_
                rw [nAnd_a (fun z => z.elim c19 (fun z => z.elim c23 c31)) (by first | exact Or.inl c41 | exact Or.inr c46)] at hQ
                exact x_iret hQ hAe hx hb hr hlocks (rfl) hS hK (Nat.le_of_ble_eq_true rfl) (Nat.le_of_ble_eq_true rfl) dX0_both_50 (lf, of) hP hD (⟨rfl, hrp⟩)
          · have c31 := (nI_eq (by omega) (by omega)).mp c31
            refine lv_iconst (v := nI 0) hx hb dX0_both_34 (by decide) ?_
            rw [nAnd_0 (by first | exact Or.inl c19 | exact Or.inr (Or.inl c23) | exact Or.inr (Or.inr c31))] at hQ
            exact x_iret hQ hAe hx hb hr hlocks (rfl) hS hK (Nat.le_of_ble_eq_true rfl) (Nat.le_of_ble_eq_true rfl) dX0_both_35 (lf, of) hP hD (⟨rfl, hrp⟩)
    · have c13 := bI_0.mp c13
      refine lv_iconst (v := (-1)) hx hb dX0_both_16 (by decide) ?_
      rw [dO_no c13, nAnd_r] at hQ
      exact x_iret hQ hAe hx hb hr hlocks (rfl) hS hK (Nat.le_of_ble_eq_true rfl) (Nat.le_of_ble_eq_true rfl) dX0_both_17 (lf, of) hP hD (⟨rfl, hrp⟩)
set_option maxHeartbeats 4000000 in
set_option maxRecDepth 100000 in
theorem c_X0_either (lch : Launch) (D : va_G) (cyI cyJ : ClassId) (sz : Nat) (h : Nat) (a1 : Nat) (a2 : Nat) (a3 : Nat) (a4 : Nat) (M1 : Nat) (M2 : Nat) (lf : Nat → Int32) (of : Nat → Int32) (nf : Nat → Int32) (wf : Nat → Int64) (ic : Nat) (l : NT) (x : Int32) (y : Int32) (hok : nOK l) (hrp : rpN l lf of) (hg : nGates l + 1 + ic = l.length) (hgM : nGates l ≤ M2) (hic : ic ≤ M1) (hMM : M1 + M2 < 10000) : Met lch yX0_either wsX0_either ({ frames := 3, cells := 0, slots := 0, locals := 68 } : Room) (va_Pc [.ref h, .int x, .int y] (xA D (xTy cyI cyJ) sz [(h, .inr (0, [.int (nI M1), .int (nI M2), .ref a1, .ref a2, .ref a3, .ref a4, .int (nI l.length), .int (nI ic)])), (a1, .inl (cyI, (1 + M1 + M2), .inl lf)), (a2, .inl (cyI, (1 + M1 + M2), .inl of)), (a3, .inl (cyI, M1, .inl nf)), (a4, .inl (cyJ, (1 + M1 + M2), .inr (.inl wf)))])) (va_Qi (fun (r : Int32) (u : (Nat → Int32) × (Nat → Int32)) => r = eO (nOr M2 l (dO l.length x) (dO l.length y)).1 ∧ rpN (nOr M2 l (dO l.length x) (dO l.length y)).2 u.1 u.2) (fun (u : (Nat → Int32) × (Nat → Int32)) t => xB D (xTy cyI cyJ) sz [(h, .inr (0, [.int (nI M1), .int (nI M2), .ref a1, .ref a2, .ref a3, .ref a4, .int (nI l.length), .int (nI ic)])), (a1, .inl (cyI, (1 + M1 + M2), .inl lf)), (a2, .inl (cyI, (1 + M1 + M2), .inl of)), (a3, .inl (cyI, M1, .inl nf)), (a4, .inl (cyJ, (1 + M1 + M2), .inr (.inl wf)))] [(h, .inr (0, [.int (nI M1), .int (nI M2), .ref a1, .ref a2, .ref a3, .ref a4, .int (nI (nOr M2 l (dO l.length x) (dO l.length y)).2.length), .int (nI ic)])), (a1, .inl (cyI, (1 + M1 + M2), .inl u.1)), (a2, .inl (cyI, (1 + M1 + M2), .inl u.2)), (a3, .inl (cyI, M1, .inl nf)), (a4, .inl (cyJ, (1 + M1 + M2), .inr (.inl wf)))] t) (va_A [(h, .inr (0, [.int (nI M1), .int (nI M2), .ref a1, .ref a2, .ref a3, .ref a4, .int (nI l.length), .int (nI ic)])), (a1, .inl (cyI, (1 + M1 + M2), .inl lf)), (a2, .inl (cyI, (1 + M1 + M2), .inl of)), (a3, .inl (cyI, M1, .inl nf)), (a4, .inl (cyJ, (1 + M1 + M2), .inr (.inl wf)))] sz)) 0 0 (va_A [(h, .inr (0, [.int (nI M1), .int (nI M2), .ref a1, .ref a2, .ref a3, .ref a4, .int (nI l.length), .int (nI ic)])), (a1, .inl (cyI, (1 + M1 + M2), .inl lf)), (a2, .inl (cyI, (1 + M1 + M2), .inl of)), (a3, .inl (cyI, M1, .inl nf)), (a4, .inl (cyJ, (1 + M1 + M2), .inr (.inl wf)))] sz) := by
  refine x_met RX0 (by decide) rfl rfl (Nat.le_of_ble_eq_true rfl) ?_
  intro p e s m below meth c A Q hAe hQ hx hb hr hlocks hml hnm hts hown hNN hK hsz hP hD hS hA ls hl
  have wzX1 := hts (.initialized RX1) (by decide +kernel)
  have ws_yX1_not := hts (.static yX1_not) (by decide +kernel)
  have hP : va_P D vwCl [(h, .inr (0, [.int (nI M1), .int (nI M2), .ref a1, .ref a2, .ref a3, .ref a4, .int (nI l.length), .int (nI ic)])), (a1, .inl (cyI, (1 + M1 + M2), .inl lf)), (a2, .inl (cyI, (1 + M1 + M2), .inl of)), (a3, .inl (cyI, M1, .inl nf)), (a4, .inl (cyJ, (1 + M1 + M2), .inr (.inl wf)))] s.heap := hP
  have hD : va_D A [(h, .inr (0, [.int (nI M1), .int (nI M2), .ref a1, .ref a2, .ref a3, .ref a4, .int (nI l.length), .int (nI ic)])), (a1, .inl (cyI, (1 + M1 + M2), .inl lf)), (a2, .inl (cyI, (1 + M1 + M2), .inl of)), (a3, .inl (cyI, M1, .inl nf)), (a4, .inl (cyJ, (1 + M1 + M2), .inr (.inl wf)))] := hD
  have hl : lv_has ls 3 [(0, .ref h), (1, .int x), (2, .int y)] := hl
  have hN5 : l.length < 100000 := by omega
  obtain ⟨k1, k2, -, ⟨rr, k3, k4, k5⟩, -⟩ := nAnd_keeps (M := M2) hok (vO_not (dO_v hN5 x)) (vO_not (dO_v hN5 y)) hgM
  have k6 : (nAnd M2 l (nNot (dO l.length x)) (nNot (dO l.length y))).2.length < 100000 := by
    rw [k3, List.length_append]; omega
  refine lv_aload_n hx hb dX0_either_0 rfl (lv_at hl 0 rfl) ?_
  refine lv_iload_n hx hb dX0_either_1 rfl (lv_at hl 1 rfl) ?_
  refine x_calli (wc := []) (wr := [(h, .inr (0, [.int (nI M1), .int (nI M2), .ref a1, .ref a2, .ref a3, .ref a4, .int (nI l.length), .int (nI ic)])), (a1, .inl (cyI, (1 + M1 + M2), .inl lf)), (a2, .inl (cyI, (1 + M1 + M2), .inl of)), (a3, .inl (cyI, M1, .inl nf)), (a4, .inl (cyJ, (1 + M1 + M2), .inr (.inl wf)))]) (w2 := fun (u : Unit) => [(h, .inr (0, [.int (nI M1), .int (nI M2), .ref a1, .ref a2, .ref a3, .ref a4, .int (nI l.length), .int (nI ic)])), (a1, .inl (cyI, (1 + M1 + M2), .inl lf)), (a2, .inl (cyI, (1 + M1 + M2), .inl of)), (a3, .inl (cyI, M1, .inl nf)), (a4, .inl (cyJ, (1 + M1 + M2), .inr (.inl wf)))]) [] [0, 1, 2, 3, 4] [0, 1, 2, 3, 4] (va_runSN (As := [.int x]) (rest := [.ref h]) ⟨hx, hb, hml, hown, hts⟩ (c_X1_not lch D cyI cyJ _ x ) ⟨va_cnB 1 hts gX0_either_X1_not_n46 rfl rfl rfl (hNN.at (.methodLinkNest "NetTwin$Net" 46 yX1_not "NetTwin") (by decide +kernel)) wzX1 (by decide +kernel) ⟨Nat.le_of_ble_eq_true rfl, Nat.le_of_ble_eq_true rfl⟩, ws_yX1_not, trivial⟩ (x_pre hK hNN (hP.sub (ws' := []) [] rfl) (hD.sub (ws' := []) [] (by decide) rfl) rfl rfl) rfl rfl hl.1 rfl (lv_room (Nat.le_of_ble_eq_true rfl)) dX0_either_2 ⟨Nat.le_of_ble_eq_true rfl, Nat.le_of_ble_eq_true rfl⟩) rfl hP hD hS hA rfl rfl (by decide) (by decide) (fun _ => rfl) (by decide) (fun r2 u2 H locs hw2 hP hD hS hz2 => ?_)
  have hP : va_P D vwCl [(h, .inr (0, [.int (nI M1), .int (nI M2), .ref a1, .ref a2, .ref a3, .ref a4, .int (nI l.length), .int (nI ic)])), (a1, .inl (cyI, (1 + M1 + M2), .inl lf)), (a2, .inl (cyI, (1 + M1 + M2), .inl of)), (a3, .inl (cyI, M1, .inl nf)), (a4, .inl (cyJ, (1 + M1 + M2), .inr (.inl wf)))] H := hP
  have hD : va_D A [(h, .inr (0, [.int (nI M1), .int (nI M2), .ref a1, .ref a2, .ref a3, .ref a4, .int (nI l.length), .int (nI ic)])), (a1, .inl (cyI, (1 + M1 + M2), .inl lf)), (a2, .inl (cyI, (1 + M1 + M2), .inl of)), (a3, .inl (cyI, M1, .inl nf)), (a4, .inl (cyJ, (1 + M1 + M2), .inr (.inl wf)))] := hD
  have hw2 : r2 = notI x := hw2
  subst hw2
  refine W.widen (k := 0) (n := 0) (Nat.le_refl _) (Nat.le_refl _) ?_
  refine lv_iload_n hx hb dX0_either_5 rfl (lv_at hl 2 rfl) ?_
  refine x_calli (wc := []) (wr := [(h, .inr (0, [.int (nI M1), .int (nI M2), .ref a1, .ref a2, .ref a3, .ref a4, .int (nI l.length), .int (nI ic)])), (a1, .inl (cyI, (1 + M1 + M2), .inl lf)), (a2, .inl (cyI, (1 + M1 + M2), .inl of)), (a3, .inl (cyI, M1, .inl nf)), (a4, .inl (cyJ, (1 + M1 + M2), .inr (.inl wf)))]) (w2 := fun (u : Unit) => [(h, .inr (0, [.int (nI M1), .int (nI M2), .ref a1, .ref a2, .ref a3, .ref a4, .int (nI l.length), .int (nI ic)])), (a1, .inl (cyI, (1 + M1 + M2), .inl lf)), (a2, .inl (cyI, (1 + M1 + M2), .inl of)), (a3, .inl (cyI, M1, .inl nf)), (a4, .inl (cyJ, (1 + M1 + M2), .inr (.inl wf)))]) [] [0, 1, 2, 3, 4] [0, 1, 2, 3, 4] (va_runSN (As := [.int y]) (rest := [.int (notI x), .ref h]) ⟨hx, hb, hml, hown, hts⟩ (c_X1_not lch D cyI cyJ _ y ) ⟨va_cnB 1 hts gX0_either_X1_not_n46 rfl rfl rfl (hNN.at (.methodLinkNest "NetTwin$Net" 46 yX1_not "NetTwin") (by decide +kernel)) wzX1 (by decide +kernel) ⟨Nat.le_of_ble_eq_true rfl, Nat.le_of_ble_eq_true rfl⟩, ws_yX1_not, trivial⟩ (x_pre hK hNN (hP.sub (ws' := []) [] rfl) (hD.sub (ws' := []) [] (by decide) rfl) rfl rfl) rfl rfl hl.1 rfl (lv_room (Nat.le_of_ble_eq_true rfl)) dX0_either_6 ⟨Nat.le_of_ble_eq_true rfl, Nat.le_of_ble_eq_true rfl⟩) rfl hP hD hS hA rfl rfl (by decide) (by decide) (fun _ => rfl) (by decide) (fun r6 u6 H locs hw6 hP hD hS hz6 => ?_)
  have hP : va_P D vwCl [(h, .inr (0, [.int (nI M1), .int (nI M2), .ref a1, .ref a2, .ref a3, .ref a4, .int (nI l.length), .int (nI ic)])), (a1, .inl (cyI, (1 + M1 + M2), .inl lf)), (a2, .inl (cyI, (1 + M1 + M2), .inl of)), (a3, .inl (cyI, M1, .inl nf)), (a4, .inl (cyJ, (1 + M1 + M2), .inr (.inl wf)))] H := hP
  have hD : va_D A [(h, .inr (0, [.int (nI M1), .int (nI M2), .ref a1, .ref a2, .ref a3, .ref a4, .int (nI l.length), .int (nI ic)])), (a1, .inl (cyI, (1 + M1 + M2), .inl lf)), (a2, .inl (cyI, (1 + M1 + M2), .inl of)), (a3, .inl (cyI, M1, .inl nf)), (a4, .inl (cyJ, (1 + M1 + M2), .inr (.inl wf)))] := hD
  have hw6 : r6 = notI y := hw6
  subst hw6
  refine W.widen (k := 0) (n := 0) (Nat.le_refl _) (Nat.le_refl _) ?_
  refine x_calli (wc := [(h, .inr (0, [.int (nI M1), .int (nI M2), .ref a1, .ref a2, .ref a3, .ref a4, .int (nI l.length), .int (nI ic)])), (a1, .inl (cyI, (1 + M1 + M2), .inl lf)), (a2, .inl (cyI, (1 + M1 + M2), .inl of)), (a3, .inl (cyI, M1, .inl nf)), (a4, .inl (cyJ, (1 + M1 + M2), .inr (.inl wf)))]) (wr := []) (w2 := fun (u : (Nat → Int32) × (Nat → Int32)) => [(h, .inr (0, [.int (nI M1), .int (nI M2), .ref a1, .ref a2, .ref a3, .ref a4, .int (nI (nAnd M2 l (dO l.length (notI x)) (dO l.length (notI y))).2.length), .int (nI ic)])), (a1, .inl (cyI, (1 + M1 + M2), .inl u.1)), (a2, .inl (cyI, (1 + M1 + M2), .inl u.2)), (a3, .inl (cyI, M1, .inl nf)), (a4, .inl (cyJ, (1 + M1 + M2), .inr (.inl wf)))]) [0, 1, 2, 3, 4] [] [0, 1, 2, 3, 4] (va_runV (As := [.int (notI x), .int (notI y)]) (rest := []) ⟨hx, hb, hml, hown, hts⟩ (c_X0_both lch D cyI cyJ _ h a1 a2 a3 a4 M1 M2 lf of nf wf ic l (notI x) (notI y) (by first | assumption | omega) (by first | assumption | omega) (by first | assumption | omega) (by first | assumption | omega) (by first | assumption | omega) (by first | assumption | omega)) (cwV 2 hts gX0_either_X0_both rfl rfl rfl (by decide +kernel) ⟨Nat.le_of_ble_eq_true rfl, Nat.le_of_ble_eq_true rfl⟩) (x_preV hK hNN (hP.sub (ws' := [(h, .inr (0, [.int (nI M1), .int (nI M2), .ref a1, .ref a2, .ref a3, .ref a4, .int (nI l.length), .int (nI ic)])), (a1, .inl (cyI, (1 + M1 + M2), .inl lf)), (a2, .inl (cyI, (1 + M1 + M2), .inl of)), (a3, .inl (cyI, M1, .inl nf)), (a4, .inl (cyJ, (1 + M1 + M2), .inr (.inl wf)))]) [0, 1, 2, 3, 4] rfl) (hD.sub (ws' := [(h, .inr (0, [.int (nI M1), .int (nI M2), .ref a1, .ref a2, .ref a3, .ref a4, .int (nI l.length), .int (nI ic)])), (a1, .inl (cyI, (1 + M1 + M2), .inl lf)), (a2, .inl (cyI, (1 + M1 + M2), .inl of)), (a3, .inl (cyI, M1, .inl nf)), (a4, .inl (cyJ, (1 + M1 + M2), .inr (.inl wf)))]) [0, 1, 2, 3, 4] (by decide) rfl) rfl rfl (ci := 0) (q0 := 0) rfl rfl rfl) rfl rfl hl.1 rfl (lv_room (Nat.le_of_ble_eq_true rfl)) dX0_either_9 ⟨Nat.le_of_ble_eq_true rfl, Nat.le_of_ble_eq_true rfl⟩) rfl hP hD hS hA rfl rfl (by decide) (by decide) (fun _ => rfl) (by decide) (fun r9 u9 H locs hw9 hP hD hS hz9 => ?_)
  obtain ⟨lf2_9, of2_9⟩ := u9
  have hP : va_P D vwCl [(h, .inr (0, [.int (nI M1), .int (nI M2), .ref a1, .ref a2, .ref a3, .ref a4, .int (nI (nAnd M2 l (dO l.length (notI x)) (dO l.length (notI y))).2.length), .int (nI ic)])), (a1, .inl (cyI, (1 + M1 + M2), .inl lf2_9)), (a2, .inl (cyI, (1 + M1 + M2), .inl of2_9)), (a3, .inl (cyI, M1, .inl nf)), (a4, .inl (cyJ, (1 + M1 + M2), .inr (.inl wf)))] H := hP
  have hD : va_D A [(h, .inr (0, [.int (nI M1), .int (nI M2), .ref a1, .ref a2, .ref a3, .ref a4, .int (nI (nAnd M2 l (dO l.length (notI x)) (dO l.length (notI y))).2.length), .int (nI ic)])), (a1, .inl (cyI, (1 + M1 + M2), .inl lf2_9)), (a2, .inl (cyI, (1 + M1 + M2), .inl of2_9)), (a3, .inl (cyI, M1, .inl nf)), (a4, .inl (cyJ, (1 + M1 + M2), .inr (.inl wf)))] := hD
  have hw9 : r9 = eO (nAnd M2 l (dO l.length (notI x)) (dO l.length (notI y))).1 ∧ rpN (nAnd M2 l (dO l.length (notI x)) (dO l.length (notI y))).2 lf2_9 of2_9 := hw9
  obtain ⟨rfl, h9⟩ := hw9
  refine W.widen (k := 0) (n := 0) (Nat.le_refl _) (Nat.le_refl _) ?_
  rw [dO_not hN5, dO_not hN5] at h9 hP hD
  rw [dO_not hN5, dO_not hN5]
  refine x_calli (wc := []) (wr := [(h, .inr (0, [.int (nI M1), .int (nI M2), .ref a1, .ref a2, .ref a3, .ref a4, .int (nI (nAnd M2 l ((nNot (dO l.length x))) ((nNot (dO l.length y)))).2.length), .int (nI ic)])), (a1, .inl (cyI, (1 + M1 + M2), .inl lf2_9)), (a2, .inl (cyI, (1 + M1 + M2), .inl of2_9)), (a3, .inl (cyI, M1, .inl nf)), (a4, .inl (cyJ, (1 + M1 + M2), .inr (.inl wf)))]) (w2 := fun (u : Unit) => [(h, .inr (0, [.int (nI M1), .int (nI M2), .ref a1, .ref a2, .ref a3, .ref a4, .int (nI (nAnd M2 l ((nNot (dO l.length x))) ((nNot (dO l.length y)))).2.length), .int (nI ic)])), (a1, .inl (cyI, (1 + M1 + M2), .inl lf2_9)), (a2, .inl (cyI, (1 + M1 + M2), .inl of2_9)), (a3, .inl (cyI, M1, .inl nf)), (a4, .inl (cyJ, (1 + M1 + M2), .inr (.inl wf)))]) [] [0, 1, 2, 3, 4] [0, 1, 2, 3, 4] (va_runSN (As := [.int (eO (nAnd M2 l ((nNot (dO l.length x))) ((nNot (dO l.length y)))).1)]) (rest := []) ⟨hx, hb, hml, hown, hts⟩ (c_X1_not lch D cyI cyJ _ (eO (nAnd M2 l ((nNot (dO l.length x))) ((nNot (dO l.length y)))).1) ) ⟨va_cnB 1 hts gX0_either_X1_not_n46 rfl rfl rfl (hNN.at (.methodLinkNest "NetTwin$Net" 46 yX1_not "NetTwin") (by decide +kernel)) wzX1 (by decide +kernel) ⟨Nat.le_of_ble_eq_true rfl, Nat.le_of_ble_eq_true rfl⟩, ws_yX1_not, trivial⟩ (x_pre hK hNN (hP.sub (ws' := []) [] rfl) (hD.sub (ws' := []) [] (by decide) rfl) rfl rfl) rfl rfl hl.1 rfl (lv_room (Nat.le_of_ble_eq_true rfl)) dX0_either_12 ⟨Nat.le_of_ble_eq_true rfl, Nat.le_of_ble_eq_true rfl⟩) rfl hP hD hS hA rfl rfl (by decide) (by decide) (fun _ => rfl) (by decide) (fun r12 u12 H locs hw12 hP hD hS hz12 => ?_)
  have hP : va_P D vwCl [(h, .inr (0, [.int (nI M1), .int (nI M2), .ref a1, .ref a2, .ref a3, .ref a4, .int (nI (nAnd M2 l ((nNot (dO l.length x))) ((nNot (dO l.length y)))).2.length), .int (nI ic)])), (a1, .inl (cyI, (1 + M1 + M2), .inl lf2_9)), (a2, .inl (cyI, (1 + M1 + M2), .inl of2_9)), (a3, .inl (cyI, M1, .inl nf)), (a4, .inl (cyJ, (1 + M1 + M2), .inr (.inl wf)))] H := hP
  have hD : va_D A [(h, .inr (0, [.int (nI M1), .int (nI M2), .ref a1, .ref a2, .ref a3, .ref a4, .int (nI (nAnd M2 l ((nNot (dO l.length x))) ((nNot (dO l.length y)))).2.length), .int (nI ic)])), (a1, .inl (cyI, (1 + M1 + M2), .inl lf2_9)), (a2, .inl (cyI, (1 + M1 + M2), .inl of2_9)), (a3, .inl (cyI, M1, .inl nf)), (a4, .inl (cyJ, (1 + M1 + M2), .inr (.inl wf)))] := hD
  have hw12 : r12 = notI (eO (nAnd M2 l ((nNot (dO l.length x))) ((nNot (dO l.length y)))).1) := hw12
  subst hw12
  refine W.widen (k := 0) (n := 0) (Nat.le_refl _) (Nat.le_refl _) ?_
  refine x_top (show notI (eO (nAnd M2 l ((nNot (dO l.length x))) ((nNot (dO l.length y)))).1) = eO (nOr M2 l (dO l.length x) (dO l.length y)).1 from notI_eO k6 k2) ?_
  exact x_iret hQ hAe hx hb hr hlocks (rfl) hS hK (Nat.le_of_ble_eq_true rfl) (Nat.le_of_ble_eq_true rfl) dX0_either_15 (lf2_9, of2_9) hP hD (⟨rfl, h9⟩)
set_option maxHeartbeats 4000000 in
set_option maxRecDepth 100000 in
theorem c_X0_wordOf (lch : Launch) (D : va_G) (cyI cyJ : ClassId) (sz : Nat) (h : Nat) (a1 : Nat) (a2 : Nat) (a3 : Nat) (a4 : Nat) (M1 : Nat) (M2 : Nat) (lf : Nat → Int32) (of : Nat → Int32) (nf : Nat → Int32) (wf : Nat → Int64) (nc : Nat) (ic : Nat) (k : Nat) (hk : k / 2 < 1 + M1 + M2) (hMM : M1 + M2 < 10000) : Met lch yX0_wordOf wsX0_wordOf ({ frames := 0, cells := 0, slots := 0, locals := 0 } : Room) (va_Pc [.ref h, .int (nI k)] (xA D (xTy cyI cyJ) sz [(h, .inr (0, [.int (nI M1), .int (nI M2), .ref a1, .ref a2, .ref a3, .ref a4, .int (nI nc), .int (nI ic)])), (a1, .inl (cyI, (1 + M1 + M2), .inl lf)), (a2, .inl (cyI, (1 + M1 + M2), .inl of)), (a3, .inl (cyI, M1, .inl nf)), (a4, .inl (cyJ, (1 + M1 + M2), .inr (.inl wf)))])) (va_Ql (fun (r : Int64) (u : Unit) => r = litW wf k) (fun (u : Unit) t => xB D (xTy cyI cyJ) sz [(h, .inr (0, [.int (nI M1), .int (nI M2), .ref a1, .ref a2, .ref a3, .ref a4, .int (nI nc), .int (nI ic)])), (a1, .inl (cyI, (1 + M1 + M2), .inl lf)), (a2, .inl (cyI, (1 + M1 + M2), .inl of)), (a3, .inl (cyI, M1, .inl nf)), (a4, .inl (cyJ, (1 + M1 + M2), .inr (.inl wf)))] [(h, .inr (0, [.int (nI M1), .int (nI M2), .ref a1, .ref a2, .ref a3, .ref a4, .int (nI nc), .int (nI ic)])), (a1, .inl (cyI, (1 + M1 + M2), .inl lf)), (a2, .inl (cyI, (1 + M1 + M2), .inl of)), (a3, .inl (cyI, M1, .inl nf)), (a4, .inl (cyJ, (1 + M1 + M2), .inr (.inl wf)))] t) (va_A [(h, .inr (0, [.int (nI M1), .int (nI M2), .ref a1, .ref a2, .ref a3, .ref a4, .int (nI nc), .int (nI ic)])), (a1, .inl (cyI, (1 + M1 + M2), .inl lf)), (a2, .inl (cyI, (1 + M1 + M2), .inl of)), (a3, .inl (cyI, M1, .inl nf)), (a4, .inl (cyJ, (1 + M1 + M2), .inr (.inl wf)))] sz)) 0 0 (va_A [(h, .inr (0, [.int (nI M1), .int (nI M2), .ref a1, .ref a2, .ref a3, .ref a4, .int (nI nc), .int (nI ic)])), (a1, .inl (cyI, (1 + M1 + M2), .inl lf)), (a2, .inl (cyI, (1 + M1 + M2), .inl of)), (a3, .inl (cyI, M1, .inl nf)), (a4, .inl (cyJ, (1 + M1 + M2), .inr (.inl wf)))] sz) := by
  refine x_met RX0 (by decide) rfl rfl (Nat.le_of_ble_eq_true rfl) ?_
  intro p e s m below meth c A Q hAe hQ hx hb hr hlocks hml hnm hts hown hNN hK hsz hP hD hS hA ls hl
  have wf28 := hts (.fieldLink RX0 28 "NetTwin$Net" "word" "[J") (by decide +kernel)
  have hiX0 : ∀ w ∈ u_ws RX0 TX0 8, w ∈ wsX0_wordOf := by decide +kernel
  have wc56 := hts (.constantLong RX0 56 (-1)) (by decide +kernel)
  have hP : va_P D vwCl [(h, .inr (0, [.int (nI M1), .int (nI M2), .ref a1, .ref a2, .ref a3, .ref a4, .int (nI nc), .int (nI ic)])), (a1, .inl (cyI, (1 + M1 + M2), .inl lf)), (a2, .inl (cyI, (1 + M1 + M2), .inl of)), (a3, .inl (cyI, M1, .inl nf)), (a4, .inl (cyJ, (1 + M1 + M2), .inr (.inl wf)))] s.heap := hP
  have hD : va_D A [(h, .inr (0, [.int (nI M1), .int (nI M2), .ref a1, .ref a2, .ref a3, .ref a4, .int (nI nc), .int (nI ic)])), (a1, .inl (cyI, (1 + M1 + M2), .inl lf)), (a2, .inl (cyI, (1 + M1 + M2), .inl of)), (a3, .inl (cyI, M1, .inl nf)), (a4, .inl (cyJ, (1 + M1 + M2), .inr (.inl wf)))] := hD
  have hl : lv_has ls 4 [(0, .ref h), (1, .int (nI k))] := hl
  refine lv_aload_n hx hb dX0_wordOf_0 rfl (lv_at hl 0 rfl) ?_
  refine va_get (D := D) (ci := 0) (v := .ref a4) (C := RX0) (T := TX0) (N := 8) hx hb hts hiX0 hown hK hP 0 rfl rfl 5 (by decide) wf28 (fun _ h9 => h9) rfl dX0_wordOf_1 ?_
  refine lv_iload_n hx hb dX0_wordOf_4 rfl (lv_at hl 1 rfl) ?_
  refine lv_iconst (v := nI 1) hx hb dX0_wordOf_5 (by decide) ?_
  refine lv_ishr hx hb dX0_wordOf_6 ?_
  refine x_top (n_shr1 (by omega)) ?_
  refine x_lald hx hb hK hP 4 1 rfl rfl (by omega) (by omega) dX0_wordOf_7 ?_
  refine lv_lstore_n (lv' := [(2, .long (wf (k / 2))), (0, .ref h), (1, .int (nI k))]) hx hb dX0_wordOf_8 rfl hl (by decide) rfl (fun ls hl => ?_)
  refine lv_iload_n hx hb dX0_wordOf_9 rfl (lv_at hl 2 rfl) ?_
  refine lv_iconst (v := nI 1) hx hb dX0_wordOf_10 (by decide) ?_
  refine lv_iand hx hb dX0_wordOf_11 ?_
  refine x_top (n_and1 (by omega)) ?_
  refine lv_if_ne (tgt := 19) hx hb dX0_wordOf_12 (by decide) (fun c12 => ?_) (fun c12 => ?_)
  · have c12 := mt (n0_eq (by omega)).mpr c12
    refine lv_lload_n hx hb dX0_wordOf_19 rfl (lv_at hl 0 rfl) ?_
    refine lv_ldc2 (v := (-1)) hx hb hown wc56 dX0_wordOf_20 ?_
    refine lv_lxor hx hb dX0_wordOf_23 ?_
    refine x_topl (show (wf (k / 2)) ^^^ (-1) = litW wf k from by rw [litW, if_neg c12]) ?_
    exact x_lret hQ hAe hx hb hr hlocks hS hK (Nat.le_of_ble_eq_true rfl) (Nat.le_of_ble_eq_true rfl) dX0_wordOf_24 () hP hD (rfl)
  · have c12 := (n0_eq (by omega)).mp c12
    refine lv_lload_n hx hb dX0_wordOf_15 rfl (lv_at hl 0 rfl) ?_
    refine lv_goto (tgt := 24) hx hb dX0_wordOf_16 (by decide) ?_
    refine x_topl (show wf (k / 2) = litW wf k from by rw [litW, if_pos c12]) ?_
    exact x_lret hQ hAe hx hb hr hlocks hS hK (Nat.le_of_ble_eq_true rfl) (Nat.le_of_ble_eq_true rfl) dX0_wordOf_24 () hP hD (rfl)
set_option maxHeartbeats 4000000 in
set_option maxRecDepth 100000 in
theorem c_X0_spread (lch : Launch) (D : va_G) (cyI cyJ : ClassId) (sz : Nat) (h : Nat) (a1 : Nat) (a2 : Nat) (a3 : Nat) (a4 : Nat) (M1 : Nat) (M2 : Nat) (lf : Nat → Int32) (of : Nat → Int32) (nf : Nat → Int32) (wf : Nat → Int64) (ic : Nat) (l : NT) (hok : nOK l) (hrp : rpN l lf of) (hg : nGates l + 1 + ic = l.length) (hgM : nGates l ≤ M2) (hic : ic ≤ M1) (hMM : M1 + M2 < 10000) : Met lch yX0_spread wsX0_spread ({ frames := 1, cells := 0, slots := 0, locals := 23 } : Room) (va_Pc [.ref h] (xA D (xTy cyI cyJ) sz [(h, .inr (0, [.int (nI M1), .int (nI M2), .ref a1, .ref a2, .ref a3, .ref a4, .int (nI l.length), .int (nI ic)])), (a1, .inl (cyI, (1 + M1 + M2), .inl lf)), (a2, .inl (cyI, (1 + M1 + M2), .inl of)), (a3, .inl (cyI, M1, .inl nf)), (a4, .inl (cyJ, (1 + M1 + M2), .inr (.inl wf)))])) (va_Qv (fun (u : Unit) => True) (fun (u : Unit) t => xB D (xTy cyI cyJ) sz [(h, .inr (0, [.int (nI M1), .int (nI M2), .ref a1, .ref a2, .ref a3, .ref a4, .int (nI l.length), .int (nI ic)])), (a1, .inl (cyI, (1 + M1 + M2), .inl lf)), (a2, .inl (cyI, (1 + M1 + M2), .inl of)), (a3, .inl (cyI, M1, .inl nf)), (a4, .inl (cyJ, (1 + M1 + M2), .inr (.inl wf)))] [(h, .inr (0, [.int (nI M1), .int (nI M2), .ref a1, .ref a2, .ref a3, .ref a4, .int (nI l.length), .int (nI ic)])), (a1, .inl (cyI, (1 + M1 + M2), .inl lf)), (a2, .inl (cyI, (1 + M1 + M2), .inl of)), (a3, .inl (cyI, M1, .inl nf)), (a4, .inl (cyJ, (1 + M1 + M2), .inr (.inl (sprd l wf l.length))))] t) (va_A [(h, .inr (0, [.int (nI M1), .int (nI M2), .ref a1, .ref a2, .ref a3, .ref a4, .int (nI l.length), .int (nI ic)])), (a1, .inl (cyI, (1 + M1 + M2), .inl lf)), (a2, .inl (cyI, (1 + M1 + M2), .inl of)), (a3, .inl (cyI, M1, .inl nf)), (a4, .inl (cyJ, (1 + M1 + M2), .inr (.inl wf)))] sz)) 0 0 (va_A [(h, .inr (0, [.int (nI M1), .int (nI M2), .ref a1, .ref a2, .ref a3, .ref a4, .int (nI l.length), .int (nI ic)])), (a1, .inl (cyI, (1 + M1 + M2), .inl lf)), (a2, .inl (cyI, (1 + M1 + M2), .inl of)), (a3, .inl (cyI, M1, .inl nf)), (a4, .inl (cyJ, (1 + M1 + M2), .inr (.inl wf)))] sz) := by
  refine x_met RX0 (by decide) rfl rfl (Nat.le_of_ble_eq_true rfl) ?_
  intro p e s m below meth c A Q hAe hQ hx hb hr hlocks hml hnm hts hown hNN hK hsz hP hD hS hA ls hl
  have wf32 := hts (.fieldLink RX0 32 "NetTwin$Net" "nodeCount" "I") (by decide +kernel)
  have hiX0 : ∀ w ∈ u_ws RX0 TX0 8, w ∈ wsX0_spread := by decide +kernel
  have wf28 := hts (.fieldLink RX0 28 "NetTwin$Net" "word" "[J") (by decide +kernel)
  have wf18 := hts (.fieldLink RX0 18 "NetTwin$Net" "lesser" "[I") (by decide +kernel)
  have wf22 := hts (.fieldLink RX0 22 "NetTwin$Net" "other" "[I") (by decide +kernel)
  have hP : va_P D vwCl [(h, .inr (0, [.int (nI M1), .int (nI M2), .ref a1, .ref a2, .ref a3, .ref a4, .int (nI l.length), .int (nI ic)])), (a1, .inl (cyI, (1 + M1 + M2), .inl lf)), (a2, .inl (cyI, (1 + M1 + M2), .inl of)), (a3, .inl (cyI, M1, .inl nf)), (a4, .inl (cyJ, (1 + M1 + M2), .inr (.inl wf)))] s.heap := hP
  have hD : va_D A [(h, .inr (0, [.int (nI M1), .int (nI M2), .ref a1, .ref a2, .ref a3, .ref a4, .int (nI l.length), .int (nI ic)])), (a1, .inl (cyI, (1 + M1 + M2), .inl lf)), (a2, .inl (cyI, (1 + M1 + M2), .inl of)), (a3, .inl (cyI, M1, .inl nf)), (a4, .inl (cyJ, (1 + M1 + M2), .inr (.inl wf)))] := hD
  have hl : lv_has ls 2 [(0, .ref h)] := hl
  refine lv_iconst (v := nI 0) hx hb dX0_spread_0 (by decide) ?_
  refine lv_istore_n (lv' := [(1, .int (nI 0)), (0, .ref h)]) hx hb dX0_spread_1 rfl hl (by decide) rfl (fun ls hl => ?_)
  have lp2 : ∀ n : Nat, ∀ (k : Nat) (w : Nat → Int64) (hk1 : k ≤ l.length) (hw : w = sprd l wf k) (hme : l.length - k < n) (H : Heap) (locs : List Loc) (ls : Array Slot), va_P D vwCl [(h, .inr (0, [.int (nI M1), .int (nI M2), .ref a1, .ref a2, .ref a3, .ref a4, .int (nI l.length), .int (nI ic)])), (a1, .inl (cyI, (1 + M1 + M2), .inl lf)), (a2, .inl (cyI, (1 + M1 + M2), .inl of)), (a3, .inl (cyI, M1, .inl nf)), (a4, .inl (cyJ, (1 + M1 + M2), .inr (.inl w)))] H → va_D A [(h, .inr (0, [.int (nI M1), .int (nI M2), .ref a1, .ref a2, .ref a3, .ref a4, .int (nI l.length), .int (nI ic)])), (a1, .inl (cyI, (1 + M1 + M2), .inl lf)), (a2, .inl (cyI, (1 + M1 + M2), .inl of)), (a3, .inl (cyI, M1, .inl nf)), (a4, .inl (cyJ, (1 + M1 + M2), .inr (.inl w)))] → va_S A s.heap H locs → lv_has ls 2 [(1, .int (nI k)), (0, .ref h)] → W p lch e ({ frames := 1, cells := 0, slots := 0, locals := 23 } : Room) s m ([.ref h] : List Value).toArray below meth c H locs 0 0 Q (F0 m 2 ls []) := by
    intro n
    induction n with
    | zero => intro k w hk1 hw hme H locs ls hP hD hS hl; exact absurd hme (Nat.not_lt_zero _)
    | succ n ih =>
      intro k w hk1 hw hme H locs ls hP hD hS hl
      refine lv_iload_n hx hb dX0_spread_2 rfl (lv_at hl 0 rfl) ?_
      refine lv_aload_n hx hb dX0_spread_3 rfl (lv_at hl 1 rfl) ?_
      refine va_get (D := D) (ci := 0) (v := .int (nI l.length)) (C := RX0) (T := TX0) (N := 8) hx hb hts hiX0 hown hK hP 0 rfl rfl 6 (by decide) wf32 (fun _ h9 => h9) rfl dX0_spread_4 ?_
      refine lv_icmp_ge (tgt := 51) hx hb dX0_spread_7 (by decide) (fun c7 => ?_) (fun c7 => ?_)
      · have c7 := (nI_leI (by omega) (by omega)).mp c7
        have hkl : k = l.length := by omega
        subst hkl
        rw [hw] at hP hD
        exact x_vret hQ hAe hx hb hr hlocks hS hK (Nat.le_of_ble_eq_true rfl) (Nat.le_of_ble_eq_true rfl) dX0_spread_51 () hP hD (trivial)
      · have c7 := mt (nI_leI (by omega) (by omega)).mpr c7
        refine lv_aload_n hx hb dX0_spread_10 rfl (lv_at hl 1 rfl) ?_
        refine lv_iload_n hx hb dX0_spread_11 rfl (lv_at hl 0 rfl) ?_
        refine x_calli (wc := [(h, .inr (0, [.int (nI M1), .int (nI M2), .ref a1, .ref a2, .ref a3, .ref a4, .int (nI l.length), .int (nI ic)])), (a1, .inl (cyI, (1 + M1 + M2), .inl lf)), (a2, .inl (cyI, (1 + M1 + M2), .inl of)), (a3, .inl (cyI, M1, .inl nf)), (a4, .inl (cyJ, (1 + M1 + M2), .inr (.inl w)))]) (wr := []) (w2 := fun (u : Unit) => [(h, .inr (0, [.int (nI M1), .int (nI M2), .ref a1, .ref a2, .ref a3, .ref a4, .int (nI l.length), .int (nI ic)])), (a1, .inl (cyI, (1 + M1 + M2), .inl lf)), (a2, .inl (cyI, (1 + M1 + M2), .inl of)), (a3, .inl (cyI, M1, .inl nf)), (a4, .inl (cyJ, (1 + M1 + M2), .inr (.inl w)))]) [0, 1, 2, 3, 4] [] [0, 1, 2, 3, 4] (va_runV (As := [.int (nI k)]) (rest := []) ⟨hx, hb, hml, hown, hts⟩ (c_X0_isGate lch D cyI cyJ _ h a1 a2 a3 a4 M1 M2 lf of nf w l.length ic k (by first | assumption | omega) (by first | assumption | omega)) (cwV 1 hts gX0_spread_X0_isGate rfl rfl rfl (by decide +kernel) ⟨Nat.le_of_ble_eq_true rfl, Nat.le_of_ble_eq_true rfl⟩) (x_preV hK hNN (hP.sub (ws' := [(h, .inr (0, [.int (nI M1), .int (nI M2), .ref a1, .ref a2, .ref a3, .ref a4, .int (nI l.length), .int (nI ic)])), (a1, .inl (cyI, (1 + M1 + M2), .inl lf)), (a2, .inl (cyI, (1 + M1 + M2), .inl of)), (a3, .inl (cyI, M1, .inl nf)), (a4, .inl (cyJ, (1 + M1 + M2), .inr (.inl w)))]) [0, 1, 2, 3, 4] rfl) (hD.sub (ws' := [(h, .inr (0, [.int (nI M1), .int (nI M2), .ref a1, .ref a2, .ref a3, .ref a4, .int (nI l.length), .int (nI ic)])), (a1, .inl (cyI, (1 + M1 + M2), .inl lf)), (a2, .inl (cyI, (1 + M1 + M2), .inl of)), (a3, .inl (cyI, M1, .inl nf)), (a4, .inl (cyJ, (1 + M1 + M2), .inr (.inl w)))]) [0, 1, 2, 3, 4] (by decide) rfl) rfl rfl (ci := 0) (q0 := 0) rfl rfl rfl) rfl rfl hl.1 rfl (lv_room (Nat.le_of_ble_eq_true rfl)) dX0_spread_12 ⟨Nat.le_of_ble_eq_true rfl, Nat.le_of_ble_eq_true rfl⟩) rfl hP hD hS hA rfl rfl (by decide) (by decide) (fun _ => rfl) (by decide) (fun r12 u12 H locs hw12 hP hD hS hz12 => ?_)
        have hP : va_P D vwCl [(h, .inr (0, [.int (nI M1), .int (nI M2), .ref a1, .ref a2, .ref a3, .ref a4, .int (nI l.length), .int (nI ic)])), (a1, .inl (cyI, (1 + M1 + M2), .inl lf)), (a2, .inl (cyI, (1 + M1 + M2), .inl of)), (a3, .inl (cyI, M1, .inl nf)), (a4, .inl (cyJ, (1 + M1 + M2), .inr (.inl w)))] H := hP
        have hD : va_D A [(h, .inr (0, [.int (nI M1), .int (nI M2), .ref a1, .ref a2, .ref a3, .ref a4, .int (nI l.length), .int (nI ic)])), (a1, .inl (cyI, (1 + M1 + M2), .inl lf)), (a2, .inl (cyI, (1 + M1 + M2), .inl of)), (a3, .inl (cyI, M1, .inl nf)), (a4, .inl (cyJ, (1 + M1 + M2), .inr (.inl w)))] := hD
        have hw12 : r12 = bI (¬ lf k = -1) := hw12
        subst hw12
        refine W.widen (k := 0) (n := 0) (Nat.le_refl _) (Nat.le_refl _) ?_
        refine lv_if_eq (tgt := 45) hx hb dX0_spread_15 (by decide) (fun c15 => ?_) (fun c15 => ?_)
        · have c15 := bI_0.mp c15
          have hz : nAt l k = none := gL_no hok (by omega) (by rw [← (hrp k (by omega)).1]; exact Decidable.not_not.mp c15)
          refine lv_iinc (v := nI (k + 1)) (lv' := [(1, .int (nI (k + 1))), (0, .ref h)]) hx hb dX0_spread_45 hl (k := 0) rfl (n_inc _) (by decide) rfl (fun ls hl => ?_)
          refine lv_goto (tgt := 2) hx hb dX0_spread_48 (by decide) ?_
          exact ih (k + 1) w (by omega) (by rw [sprd_n hz]; exact hw) (by omega) _ _ _ hP hD hS (lv_sub hl [0, 1] rfl)
        · have c15 := Decidable.not_not.mp (mt bI_0.mpr c15)
          obtain ⟨ga, gb, hg2⟩ := gL_yes (g := nAt l k) (by rw [← (hrp k (by omega)).1]; exact c15)
          have hgk := hok.2.2 k ga gb hg2
          have e1 : lf k = nI ga := by rw [(hrp k (by omega)).1, hg2]; rfl
          have e2 : of k = nI gb := by rw [(hrp k (by omega)).2, hg2]; rfl
          refine lv_aload_n hx hb dX0_spread_18 rfl (lv_at hl 1 rfl) ?_
          refine va_get (D := D) (ci := 0) (v := .ref a4) (C := RX0) (T := TX0) (N := 8) hx hb hts hiX0 hown hK hP 0 rfl rfl 5 (by decide) wf28 (fun _ h9 => h9) rfl dX0_spread_19 ?_
          refine lv_iload_n hx hb dX0_spread_22 rfl (lv_at hl 0 rfl) ?_
          refine lv_aload_n hx hb dX0_spread_23 rfl (lv_at hl 1 rfl) ?_
          refine lv_aload_n hx hb dX0_spread_24 rfl (lv_at hl 1 rfl) ?_
          refine va_get (D := D) (ci := 0) (v := .ref a1) (C := RX0) (T := TX0) (N := 8) hx hb hts hiX0 hown hK hP 0 rfl rfl 2 (by decide) wf18 (fun _ h9 => h9) rfl dX0_spread_25 ?_
          refine lv_iload_n hx hb dX0_spread_28 rfl (lv_at hl 0 rfl) ?_
          refine x_iald hx hb hK hP 1 0 rfl rfl (by omega) (by omega) dX0_spread_29 ?_
          refine x_top (show lf k = nI ga from e1) ?_
          refine x_calll (wc := [(h, .inr (0, [.int (nI M1), .int (nI M2), .ref a1, .ref a2, .ref a3, .ref a4, .int (nI l.length), .int (nI ic)])), (a1, .inl (cyI, (1 + M1 + M2), .inl lf)), (a2, .inl (cyI, (1 + M1 + M2), .inl of)), (a3, .inl (cyI, M1, .inl nf)), (a4, .inl (cyJ, (1 + M1 + M2), .inr (.inl w)))]) (wr := []) (w2 := fun (u : Unit) => [(h, .inr (0, [.int (nI M1), .int (nI M2), .ref a1, .ref a2, .ref a3, .ref a4, .int (nI l.length), .int (nI ic)])), (a1, .inl (cyI, (1 + M1 + M2), .inl lf)), (a2, .inl (cyI, (1 + M1 + M2), .inl of)), (a3, .inl (cyI, M1, .inl nf)), (a4, .inl (cyJ, (1 + M1 + M2), .inr (.inl w)))]) [0, 1, 2, 3, 4] [] [0, 1, 2, 3, 4] (va_runV (As := [.int (nI ga)]) (rest := [.int (nI k), .ref a4]) ⟨hx, hb, hml, hown, hts⟩ (c_X0_wordOf lch D cyI cyJ _ h a1 a2 a3 a4 M1 M2 lf of nf w l.length ic ga (by first | assumption | omega) (by first | assumption | omega)) (cwV 1 hts gX0_spread_X0_wordOf rfl rfl rfl (by decide +kernel) ⟨Nat.le_of_ble_eq_true rfl, Nat.le_of_ble_eq_true rfl⟩) (x_preV hK hNN (hP.sub (ws' := [(h, .inr (0, [.int (nI M1), .int (nI M2), .ref a1, .ref a2, .ref a3, .ref a4, .int (nI l.length), .int (nI ic)])), (a1, .inl (cyI, (1 + M1 + M2), .inl lf)), (a2, .inl (cyI, (1 + M1 + M2), .inl of)), (a3, .inl (cyI, M1, .inl nf)), (a4, .inl (cyJ, (1 + M1 + M2), .inr (.inl w)))]) [0, 1, 2, 3, 4] rfl) (hD.sub (ws' := [(h, .inr (0, [.int (nI M1), .int (nI M2), .ref a1, .ref a2, .ref a3, .ref a4, .int (nI l.length), .int (nI ic)])), (a1, .inl (cyI, (1 + M1 + M2), .inl lf)), (a2, .inl (cyI, (1 + M1 + M2), .inl of)), (a3, .inl (cyI, M1, .inl nf)), (a4, .inl (cyJ, (1 + M1 + M2), .inr (.inl w)))]) [0, 1, 2, 3, 4] (by decide) rfl) rfl rfl (ci := 0) (q0 := 0) rfl rfl rfl) rfl rfl hl.1 rfl (lv_room (Nat.le_of_ble_eq_true rfl)) dX0_spread_30 ⟨Nat.le_of_ble_eq_true rfl, Nat.le_of_ble_eq_true rfl⟩) rfl hP hD hS hA rfl rfl (by decide) (by decide) (fun _ => rfl) (by decide) (fun r30 u30 H locs hw30 hP hD hS hz30 => ?_)
          have hP : va_P D vwCl [(h, .inr (0, [.int (nI M1), .int (nI M2), .ref a1, .ref a2, .ref a3, .ref a4, .int (nI l.length), .int (nI ic)])), (a1, .inl (cyI, (1 + M1 + M2), .inl lf)), (a2, .inl (cyI, (1 + M1 + M2), .inl of)), (a3, .inl (cyI, M1, .inl nf)), (a4, .inl (cyJ, (1 + M1 + M2), .inr (.inl w)))] H := hP
          have hD : va_D A [(h, .inr (0, [.int (nI M1), .int (nI M2), .ref a1, .ref a2, .ref a3, .ref a4, .int (nI l.length), .int (nI ic)])), (a1, .inl (cyI, (1 + M1 + M2), .inl lf)), (a2, .inl (cyI, (1 + M1 + M2), .inl of)), (a3, .inl (cyI, M1, .inl nf)), (a4, .inl (cyJ, (1 + M1 + M2), .inr (.inl w)))] := hD
          have hw30 : r30 = litW w ga := hw30
          subst hw30
          refine W.widen (k := 0) (n := 0) (Nat.le_refl _) (Nat.le_refl _) ?_
          refine lv_aload_n hx hb dX0_spread_33 rfl (lv_at hl 1 rfl) ?_
          refine lv_aload_n hx hb dX0_spread_34 rfl (lv_at hl 1 rfl) ?_
          refine va_get (D := D) (ci := 0) (v := .ref a2) (C := RX0) (T := TX0) (N := 8) hx hb hts hiX0 hown hK hP 0 rfl rfl 3 (by decide) wf22 (fun _ h9 => h9) rfl dX0_spread_35 ?_
          refine lv_iload_n hx hb dX0_spread_38 rfl (lv_at hl 0 rfl) ?_
          refine x_iald hx hb hK hP 2 0 rfl rfl (by omega) (by omega) dX0_spread_39 ?_
          refine x_top (show of k = nI gb from e2) ?_
          refine x_calll (wc := [(h, .inr (0, [.int (nI M1), .int (nI M2), .ref a1, .ref a2, .ref a3, .ref a4, .int (nI l.length), .int (nI ic)])), (a1, .inl (cyI, (1 + M1 + M2), .inl lf)), (a2, .inl (cyI, (1 + M1 + M2), .inl of)), (a3, .inl (cyI, M1, .inl nf)), (a4, .inl (cyJ, (1 + M1 + M2), .inr (.inl w)))]) (wr := []) (w2 := fun (u : Unit) => [(h, .inr (0, [.int (nI M1), .int (nI M2), .ref a1, .ref a2, .ref a3, .ref a4, .int (nI l.length), .int (nI ic)])), (a1, .inl (cyI, (1 + M1 + M2), .inl lf)), (a2, .inl (cyI, (1 + M1 + M2), .inl of)), (a3, .inl (cyI, M1, .inl nf)), (a4, .inl (cyJ, (1 + M1 + M2), .inr (.inl w)))]) [0, 1, 2, 3, 4] [] [0, 1, 2, 3, 4] (va_runV (As := [.int (nI gb)]) (rest := [.long (litW w ga), .int (nI k), .ref a4]) ⟨hx, hb, hml, hown, hts⟩ (c_X0_wordOf lch D cyI cyJ _ h a1 a2 a3 a4 M1 M2 lf of nf w l.length ic gb (by first | assumption | omega) (by first | assumption | omega)) (cwV 1 hts gX0_spread_X0_wordOf rfl rfl rfl (by decide +kernel) ⟨Nat.le_of_ble_eq_true rfl, Nat.le_of_ble_eq_true rfl⟩) (x_preV hK hNN (hP.sub (ws' := [(h, .inr (0, [.int (nI M1), .int (nI M2), .ref a1, .ref a2, .ref a3, .ref a4, .int (nI l.length), .int (nI ic)])), (a1, .inl (cyI, (1 + M1 + M2), .inl lf)), (a2, .inl (cyI, (1 + M1 + M2), .inl of)), (a3, .inl (cyI, M1, .inl nf)), (a4, .inl (cyJ, (1 + M1 + M2), .inr (.inl w)))]) [0, 1, 2, 3, 4] rfl) (hD.sub (ws' := [(h, .inr (0, [.int (nI M1), .int (nI M2), .ref a1, .ref a2, .ref a3, .ref a4, .int (nI l.length), .int (nI ic)])), (a1, .inl (cyI, (1 + M1 + M2), .inl lf)), (a2, .inl (cyI, (1 + M1 + M2), .inl of)), (a3, .inl (cyI, M1, .inl nf)), (a4, .inl (cyJ, (1 + M1 + M2), .inr (.inl w)))]) [0, 1, 2, 3, 4] (by decide) rfl) rfl rfl (ci := 0) (q0 := 0) rfl rfl rfl) rfl rfl hl.1 rfl (lv_room (Nat.le_of_ble_eq_true rfl)) dX0_spread_40 ⟨Nat.le_of_ble_eq_true rfl, Nat.le_of_ble_eq_true rfl⟩) rfl hP hD hS hA rfl rfl (by decide) (by decide) (fun _ => rfl) (by decide) (fun r40 u40 H locs hw40 hP hD hS hz40 => ?_)
          have hP : va_P D vwCl [(h, .inr (0, [.int (nI M1), .int (nI M2), .ref a1, .ref a2, .ref a3, .ref a4, .int (nI l.length), .int (nI ic)])), (a1, .inl (cyI, (1 + M1 + M2), .inl lf)), (a2, .inl (cyI, (1 + M1 + M2), .inl of)), (a3, .inl (cyI, M1, .inl nf)), (a4, .inl (cyJ, (1 + M1 + M2), .inr (.inl w)))] H := hP
          have hD : va_D A [(h, .inr (0, [.int (nI M1), .int (nI M2), .ref a1, .ref a2, .ref a3, .ref a4, .int (nI l.length), .int (nI ic)])), (a1, .inl (cyI, (1 + M1 + M2), .inl lf)), (a2, .inl (cyI, (1 + M1 + M2), .inl of)), (a3, .inl (cyI, M1, .inl nf)), (a4, .inl (cyJ, (1 + M1 + M2), .inr (.inl w)))] := hD
          have hw40 : r40 = litW w gb := hw40
          subst hw40
          refine W.widen (k := 0) (n := 0) (Nat.le_refl _) (Nat.le_refl _) ?_
          refine lv_land hx hb dX0_spread_43 ?_
          refine x_last hx hb hK hP hD hS 4 1 rfl rfl (by omega) (by omega) dX0_spread_44 (fun H locs hP hD hS => ?_)
          have hP : va_P D vwCl [(h, .inr (0, [.int (nI M1), .int (nI M2), .ref a1, .ref a2, .ref a3, .ref a4, .int (nI l.length), .int (nI ic)])), (a1, .inl (cyI, (1 + M1 + M2), .inl lf)), (a2, .inl (cyI, (1 + M1 + M2), .inl of)), (a3, .inl (cyI, M1, .inl nf)), (a4, .inl (cyJ, (1 + M1 + M2), .inr (.inl (vp_updL w k ((litW w ga) &&& (litW w gb))))))] H := hP
          have hD : va_D A [(h, .inr (0, [.int (nI M1), .int (nI M2), .ref a1, .ref a2, .ref a3, .ref a4, .int (nI l.length), .int (nI ic)])), (a1, .inl (cyI, (1 + M1 + M2), .inl lf)), (a2, .inl (cyI, (1 + M1 + M2), .inl of)), (a3, .inl (cyI, M1, .inl nf)), (a4, .inl (cyJ, (1 + M1 + M2), .inr (.inl (vp_updL w k ((litW w ga) &&& (litW w gb))))))] := hD
          refine lv_iinc (v := nI (k + 1)) (lv' := [(1, .int (nI (k + 1))), (0, .ref h)]) hx hb dX0_spread_45 hl (k := 0) rfl (n_inc _) (by decide) rfl (fun ls hl => ?_)
          refine lv_goto (tgt := 2) hx hb dX0_spread_48 (by decide) ?_
          exact ih (k + 1) (vp_updL w k (litW w ga &&& litW w gb)) (by omega) (by rw [sprd_g hg2, ← hw]) (by omega) _ _ _ hP hD hS (lv_sub hl [0, 1] rfl)
  exact lp2 _ 0 wf (Nat.zero_le _) rfl (Nat.lt_succ_self _) _ _ _ hP hD hS (lv_sub hl [0, 1] rfl)
