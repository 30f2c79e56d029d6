set_option maxHeartbeats 4000000 in
set_option maxRecDepth 100000 in
theorem c_X0_holds (l : Launch) (D : va_G) (cyI cyJ : ClassId) (sz : Nat) (h : Nat) (a1 : Nat) (a2 : Nat) (a3 : Nat) (a4 : Nat) (M1 : Nat) (M2 : Nat) (lf : Nat → Int32) (of : Nat → Int32) (nf : Nat → Int32) (wf : Nat → Int64) (nc : Nat) (ic : Nat) (x : Int32) (hnc : nc < 10000) : Met l yX0_holds wsX0_holds ({ frames := 0, cells := 0, slots := 0, locals := 0 } : Room) (va_Pc [.ref h, .int x] (xA D (xTy cyI cyJ) sz [(h, .inr (0, [.int (nI M1), .int (nI M2), .ref a1, .ref a2, .ref a3, .ref a4, .int (nI nc), .int (nI ic)])), (a1, .inl (cyI, (1 + M1 + M2), .inl lf)), (a2, .inl (cyI, (1 + M1 + M2), .inl of)), (a3, .inl (cyI, M1, .inl nf)), (a4, .inl (cyJ, (1 + M1 + M2), .inr (.inl wf)))])) (va_Qi (fun (r : Int32) (u : Unit) => r = bI (0 ≤ x ∧ x < nI (2 * nc))) (fun (u : Unit) t => xB D (xTy cyI cyJ) sz [(h, .inr (0, [.int (nI M1), .int (nI M2), .ref a1, .ref a2, .ref a3, .ref a4, .int (nI nc), .int (nI ic)])), (a1, .inl (cyI, (1 + M1 + M2), .inl lf)), (a2, .inl (cyI, (1 + M1 + M2), .inl of)), (a3, .inl (cyI, M1, .inl nf)), (a4, .inl (cyJ, (1 + M1 + M2), .inr (.inl wf)))] [(h, .inr (0, [.int (nI M1), .int (nI M2), .ref a1, .ref a2, .ref a3, .ref a4, .int (nI nc), .int (nI ic)])), (a1, .inl (cyI, (1 + M1 + M2), .inl lf)), (a2, .inl (cyI, (1 + M1 + M2), .inl of)), (a3, .inl (cyI, M1, .inl nf)), (a4, .inl (cyJ, (1 + M1 + M2), .inr (.inl wf)))] t) (va_A [(h, .inr (0, [.int (nI M1), .int (nI M2), .ref a1, .ref a2, .ref a3, .ref a4, .int (nI nc), .int (nI ic)])), (a1, .inl (cyI, (1 + M1 + M2), .inl lf)), (a2, .inl (cyI, (1 + M1 + M2), .inl of)), (a3, .inl (cyI, M1, .inl nf)), (a4, .inl (cyJ, (1 + M1 + M2), .inr (.inl wf)))] sz)) 0 0 (va_A [(h, .inr (0, [.int (nI M1), .int (nI M2), .ref a1, .ref a2, .ref a3, .ref a4, .int (nI nc), .int (nI ic)])), (a1, .inl (cyI, (1 + M1 + M2), .inl lf)), (a2, .inl (cyI, (1 + M1 + M2), .inl of)), (a3, .inl (cyI, M1, .inl nf)), (a4, .inl (cyJ, (1 + M1 + M2), .inr (.inl wf)))] sz) := by
  refine x_met RX0 (by decide) rfl rfl (Nat.le_of_ble_eq_true rfl) ?_
  intro p e s m below meth c A Q hAe hQ hx hb hr hlocks hml hnm hts hown hNN hK hsz hP hD hS hA ls hl
  have wf32 := hts (.fieldLink RX0 32 "NetTwin$Net" "nodeCount" "I") (by decide +kernel)
  have hiX0 : ∀ w ∈ u_ws RX0 TX0 8, w ∈ wsX0_holds := by decide +kernel
  have hP : va_P D vwCl [(h, .inr (0, [.int (nI M1), .int (nI M2), .ref a1, .ref a2, .ref a3, .ref a4, .int (nI nc), .int (nI ic)])), (a1, .inl (cyI, (1 + M1 + M2), .inl lf)), (a2, .inl (cyI, (1 + M1 + M2), .inl of)), (a3, .inl (cyI, M1, .inl nf)), (a4, .inl (cyJ, (1 + M1 + M2), .inr (.inl wf)))] s.heap := hP
  have hD : va_D A [(h, .inr (0, [.int (nI M1), .int (nI M2), .ref a1, .ref a2, .ref a3, .ref a4, .int (nI nc), .int (nI ic)])), (a1, .inl (cyI, (1 + M1 + M2), .inl lf)), (a2, .inl (cyI, (1 + M1 + M2), .inl of)), (a3, .inl (cyI, M1, .inl nf)), (a4, .inl (cyJ, (1 + M1 + M2), .inr (.inl wf)))] := hD
  have hl : lv_has ls 2 [(0, .ref h), (1, .int x)] := hl
  refine lv_iload_n hx hb dX0_holds_0 rfl (lv_at hl 1 rfl) ?_
  refine lv_if_lt (tgt := 18) hx hb dX0_holds_1 (by decide) (fun c1 => ?_) (fun c1 => ?_)
  · refine lv_iconst (v := nI 0) hx hb dX0_holds_18 (by decide) ?_
    refine x_top (show nI 0 = bI (0 ≤ x ∧ x < nI (2 * nc)) from bI_fn (by rintro ⟨p1, p2⟩; exact absurd c1 (Int32.not_lt.mpr p1))) ?_
    exact x_iret hQ hAe hx hb hr hlocks (bI_z) hS hK (Nat.le_of_ble_eq_true rfl) (Nat.le_of_ble_eq_true rfl) dX0_holds_19 () hP hD (rfl)
  · have c1 := Int32.not_lt.mp c1
    refine lv_iload_n hx hb dX0_holds_4 rfl (lv_at hl 1 rfl) ?_
    refine lv_iconst (v := nI 2) hx hb dX0_holds_5 (by decide) ?_
    refine lv_aload_n hx hb dX0_holds_6 rfl (lv_at hl 0 rfl) ?_
    refine va_get (D := D) (ci := 0) (v := .int (nI nc)) (C := RX0) (T := TX0) (N := 8) hx hb hts hiX0 hown hK hP 0 rfl rfl 6 (by decide) wf32 (fun _ h9 => h9) rfl dX0_holds_7 ?_
    refine lv_imul hx hb dX0_holds_10 ?_
    refine x_top (pk_mul _ _) ?_
    refine lv_icmp_ge (tgt := 18) hx hb dX0_holds_11 (by decide) (fun c11 => ?_) (fun c11 => ?_)
    · refine lv_iconst (v := nI 0) hx hb dX0_holds_18 (by decide) ?_
      refine x_top (show nI 0 = bI (0 ≤ x ∧ x < nI (2 * nc)) from bI_fn (by rintro ⟨p1, p2⟩; exact absurd p2 (Int32.not_lt.mpr c11))) ?_
      exact x_iret hQ hAe hx hb hr hlocks (bI_z) hS hK (Nat.le_of_ble_eq_true rfl) (Nat.le_of_ble_eq_true rfl) dX0_holds_19 () hP hD (rfl)
    · refine lv_iconst (v := nI 1) hx hb dX0_holds_14 (by decide) ?_
      refine x_top (show nI 1 = bI (0 ≤ x ∧ x < nI (2 * nc)) from bI_tn ⟨c1, Int32.not_le.mp c11⟩) ?_
      refine lv_goto (tgt := 19) hx hb dX0_holds_15 (by decide) ?_
      exact x_iret hQ hAe hx hb hr hlocks (bI_z) hS hK (Nat.le_of_ble_eq_true rfl) (Nat.le_of_ble_eq_true rfl) dX0_holds_19 () hP hD (rfl)
