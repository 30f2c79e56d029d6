/-! nodes, gate, twinOf, set, the constructor of NetTwinModel: contracts by program (wip/whole/spec_yq.py) -/
theorem MI_tw {l : NT} {inp : Nat → Nat} {ic : Nat} {st : Bool} {cap : Nat} {lf of : Nat → Int32} {tcap : Nat} {tlf tof : Nat → Int32} {tnc tgt : Nat} {nf : Nat → Int32} {vc : Nat} {vl tl : Nat → Int32} {oc : Nat}
    (h : MI l inp ic st cap lf of tcap tlf tof tnc tgt nf vc vl tl oc) (hs : st = true) : ∃ S, tBuild l inp ic = some S ∧ twM l S tcap tlf tof tnc tgt vc vl tl ∧ tOK l ic l.length S ∧ tNet l inp ic st = S.1 ∧ S.1.length ≤ 1629 := by
  obtain ⟨hN, -, -, -, -, -, -, -, -, h9⟩ := h
  obtain ⟨S, hS, hT⟩ := h9 hs
  have ht := tLoop_ok hN l.length (Nat.le_refl _) S hS
  refine ⟨S, hS, hT, ht, by rw [tNet, if_pos hs, hS], ?_⟩
  have h6 := ht.2.1
  have h7 := ht.2.2.1
  have h8 := hN.2.2.2.1
  omega
theorem sGate_bad {l : NT} {inp : Nat → Nat} {ic : Nat} {st : Bool} {q nd wh : Int32} (h : ¬ (0 ≤ nd ∧ nd < nI (sL l inp ic st q).length)) : sGate l inp ic st q nd wh = -1 := if_neg h
theorem sGate_w {l : NT} {inp : Nat → Nat} {ic : Nat} {st : Bool} {q nd wh : Int32} (h : wh < 0 ∨ ¬ wh ≤ nI 1) : sGate l inp ic st q nd wh = -1 := by
  refine sGate_2 (fun z => ?_) (fun z => ?_)
  · rw [z] at h; exact h.elim (fun a => absurd a (by decide)) (fun a => a (by decide))
  · rw [z] at h; exact h.elim (fun a => absurd a (by decide)) (fun a => a (by decide))
theorem wh_1 {wh : Int32} (h1 : ¬ wh < 0) (h2 : ¬ wh = 0) (h3 : wh ≤ nI 1) : wh = 1 := by
  obtain ⟨k, hk, rfl⟩ := nI_of h1
  have h4 := (nI_leI hk (by omega)).mp h3
  have h5 : ¬ k = 0 := fun z => h2 ((n0_eq hk).mpr z)
  have e : k = 1 := by omega
  subst e
  rfl
set_option maxHeartbeats 4000000 in
set_option maxRecDepth 100000 in
theorem c_X3_nodes (lch : Launch) (D : va_G) (cyI cyJ : ClassId) (sz : Nat) (y : Nat) (hn : Nat) (n1 : Nat) (n2 : Nat) (ht : Nat) (t1 : Nat) (t2 : Nat) (iv : Nat) (bv : Nat) (tv : Nat) (vv : Nat) (uv : Nat) (ov : Nat) (kv : Nat) (cap : Nat) (lf : Nat → Int32) (of : Nat → Int32) (tcap : Nat) (tlf : Nat → Int32) (tof : Nat → Int32) (tnc : Nat) (tgt : Nat) (nf : Nat → Int32) (ic : Nat) (bb : Nat → Int32) (tt : Nat → Int32) (vc : Nat) (vl : Nat → Int32) (tl : Nat → Int32) (oc : Nat) (nw : Nat → Int32) (mk : Nat → Int32) (l : NT) (inp : Nat → Nat) (st : Bool) (q : Int32) (hMI : MI l inp ic st cap lf of tcap tlf tof tnc tgt nf vc vl tl oc) : Met lch yX3_nodes wsX3_nodes ({ frames := 0, cells := 320, slots := 10240, locals := 0 } : Room) (va_Pc [.ref y, .int q] (xA D (xTy cyI cyJ) sz [(y, .inr (3, [.ref hn, .ref ht, .int (bI (st = true)), .ref iv, .int (nI ic), .ref bv, .ref tv, .ref vv, .ref uv, .ref ov, .ref kv])), (hn, .inr (2, [.ref n1, .ref n2, .int (nI l.length), .int (nI (nGates l)), .int (nI 400)])), (n1, .inl (cyI, cap, .inl lf)), (n2, .inl (cyI, cap, .inl of)), (ht, .inr (2, [.ref t1, .ref t2, .int (nI tnc), .int (nI tgt), .int (nI 1500)])), (t1, .inl (cyI, tcap, .inl tlf)), (t2, .inl (cyI, tcap, .inl tof)), (iv, .inl (cyI, 64, .inl nf)), (bv, .inl (cyI, 64, .inl bb)), (tv, .inl (cyI, 64, .inl tt)), (vv, .inl (cyI, vc, .inl vl)), (uv, .inl (cyI, vc, .inl tl)), (ov, .inl (cyI, oc, .inl nw)), (kv, .inl (cyI, oc, .inl mk))])) (va_Qi (fun (r : Int32) (u : Unit) => r = nI (sL l inp ic st q).length) (fun (u : Unit) t => xB D (xTy cyI cyJ) sz [(y, .inr (3, [.ref hn, .ref ht, .int (bI (st = true)), .ref iv, .int (nI ic), .ref bv, .ref tv, .ref vv, .ref uv, .ref ov, .ref kv])), (hn, .inr (2, [.ref n1, .ref n2, .int (nI l.length), .int (nI (nGates l)), .int (nI 400)])), (n1, .inl (cyI, cap, .inl lf)), (n2, .inl (cyI, cap, .inl of)), (ht, .inr (2, [.ref t1, .ref t2, .int (nI tnc), .int (nI tgt), .int (nI 1500)])), (t1, .inl (cyI, tcap, .inl tlf)), (t2, .inl (cyI, tcap, .inl tof)), (iv, .inl (cyI, 64, .inl nf)), (bv, .inl (cyI, 64, .inl bb)), (tv, .inl (cyI, 64, .inl tt)), (vv, .inl (cyI, vc, .inl vl)), (uv, .inl (cyI, vc, .inl tl)), (ov, .inl (cyI, oc, .inl nw)), (kv, .inl (cyI, oc, .inl mk))] [(y, .inr (3, [.ref hn, .ref ht, .int (bI (st = true)), .ref iv, .int (nI ic), .ref bv, .ref tv, .ref vv, .ref uv, .ref ov, .ref kv])), (hn, .inr (2, [.ref n1, .ref n2, .int (nI l.length), .int (nI (nGates l)), .int (nI 400)])), (n1, .inl (cyI, cap, .inl lf)), (n2, .inl (cyI, cap, .inl of)), (ht, .inr (2, [.ref t1, .ref t2, .int (nI tnc), .int (nI tgt), .int (nI 1500)])), (t1, .inl (cyI, tcap, .inl tlf)), (t2, .inl (cyI, tcap, .inl tof)), (iv, .inl (cyI, 64, .inl nf)), (bv, .inl (cyI, 64, .inl bb)), (tv, .inl (cyI, 64, .inl tt)), (vv, .inl (cyI, vc, .inl vl)), (uv, .inl (cyI, vc, .inl tl)), (ov, .inl (cyI, oc, .inl nw)), (kv, .inl (cyI, oc, .inl mk))] t) (va_A [(y, .inr (3, [.ref hn, .ref ht, .int (bI (st = true)), .ref iv, .int (nI ic), .ref bv, .ref tv, .ref vv, .ref uv, .ref ov, .ref kv])), (hn, .inr (2, [.ref n1, .ref n2, .int (nI l.length), .int (nI (nGates l)), .int (nI 400)])), (n1, .inl (cyI, cap, .inl lf)), (n2, .inl (cyI, cap, .inl of)), (ht, .inr (2, [.ref t1, .ref t2, .int (nI tnc), .int (nI tgt), .int (nI 1500)])), (t1, .inl (cyI, tcap, .inl tlf)), (t2, .inl (cyI, tcap, .inl tof)), (iv, .inl (cyI, 64, .inl nf)), (bv, .inl (cyI, 64, .inl bb)), (tv, .inl (cyI, 64, .inl tt)), (vv, .inl (cyI, vc, .inl vl)), (uv, .inl (cyI, vc, .inl tl)), (ov, .inl (cyI, oc, .inl nw)), (kv, .inl (cyI, oc, .inl mk))] sz)) 320 10240 (va_A [(y, .inr (3, [.ref hn, .ref ht, .int (bI (st = true)), .ref iv, .int (nI ic), .ref bv, .ref tv, .ref vv, .ref uv, .ref ov, .ref kv])), (hn, .inr (2, [.ref n1, .ref n2, .int (nI l.length), .int (nI (nGates l)), .int (nI 400)])), (n1, .inl (cyI, cap, .inl lf)), (n2, .inl (cyI, cap, .inl of)), (ht, .inr (2, [.ref t1, .ref t2, .int (nI tnc), .int (nI tgt), .int (nI 1500)])), (t1, .inl (cyI, tcap, .inl tlf)), (t2, .inl (cyI, tcap, .inl tof)), (iv, .inl (cyI, 64, .inl nf)), (bv, .inl (cyI, 64, .inl bb)), (tv, .inl (cyI, 64, .inl tt)), (vv, .inl (cyI, vc, .inl vl)), (uv, .inl (cyI, vc, .inl tl)), (ov, .inl (cyI, oc, .inl nw)), (kv, .inl (cyI, oc, .inl mk))] sz) := by
  refine x_met RX3 (by decide) rfl rfl (Nat.le_of_ble_eq_true rfl) ?_
  intro p e s m below meth c A Q hAe hQ hx hb hr hlocks hml hnm hts hown hNN hK hsz hP hD hS hA ls hl
  have wf51 := hts (.fieldLink RX3 51 "NetTwinModel" "isTwin" "Z") (by decide +kernel)
  have hiX3 : ∀ w ∈ u_ws RX3 TX3 11, w ∈ wsX3_nodes := by decide +kernel
  have wf18 := hts (.fieldLink RX3 18 "NetTwinModel" "twin" "LNetTwinModel$Nodes;") (by decide +kernel)
  have wf78 := hts (.fieldLink RX3 78 "NetTwinModel$Nodes" "count" "I") (by decide +kernel)
  have hiX2 : ∀ w ∈ u_ws RX2 TX2 5, w ∈ wsX3_nodes := by decide +kernel
  have wf14 := hts (.fieldLink RX3 14 "NetTwinModel" "net" "LNetTwinModel$Nodes;") (by decide +kernel)
  have hP : va_P D vwCl [(y, .inr (3, [.ref hn, .ref ht, .int (bI (st = true)), .ref iv, .int (nI ic), .ref bv, .ref tv, .ref vv, .ref uv, .ref ov, .ref kv])), (hn, .inr (2, [.ref n1, .ref n2, .int (nI l.length), .int (nI (nGates l)), .int (nI 400)])), (n1, .inl (cyI, cap, .inl lf)), (n2, .inl (cyI, cap, .inl of)), (ht, .inr (2, [.ref t1, .ref t2, .int (nI tnc), .int (nI tgt), .int (nI 1500)])), (t1, .inl (cyI, tcap, .inl tlf)), (t2, .inl (cyI, tcap, .inl tof)), (iv, .inl (cyI, 64, .inl nf)), (bv, .inl (cyI, 64, .inl bb)), (tv, .inl (cyI, 64, .inl tt)), (vv, .inl (cyI, vc, .inl vl)), (uv, .inl (cyI, vc, .inl tl)), (ov, .inl (cyI, oc, .inl nw)), (kv, .inl (cyI, oc, .inl mk))] s.heap := hP
  have hD : va_D A [(y, .inr (3, [.ref hn, .ref ht, .int (bI (st = true)), .ref iv, .int (nI ic), .ref bv, .ref tv, .ref vv, .ref uv, .ref ov, .ref kv])), (hn, .inr (2, [.ref n1, .ref n2, .int (nI l.length), .int (nI (nGates l)), .int (nI 400)])), (n1, .inl (cyI, cap, .inl lf)), (n2, .inl (cyI, cap, .inl of)), (ht, .inr (2, [.ref t1, .ref t2, .int (nI tnc), .int (nI tgt), .int (nI 1500)])), (t1, .inl (cyI, tcap, .inl tlf)), (t2, .inl (cyI, tcap, .inl tof)), (iv, .inl (cyI, 64, .inl nf)), (bv, .inl (cyI, 64, .inl bb)), (tv, .inl (cyI, 64, .inl tt)), (vv, .inl (cyI, vc, .inl vl)), (uv, .inl (cyI, vc, .inl tl)), (ov, .inl (cyI, oc, .inl nw)), (kv, .inl (cyI, oc, .inl mk))] := hD
  have hl : lv_has ls 2 [(0, .ref y), (1, .int q)] := hl
  have hM2 := hMI
  obtain ⟨hNI, hrp, hcl, hoc1, hoc2, hoc3, hvc, hoc4, hin, -⟩ := hM2
  have hN2 := hNI
  obtain ⟨hok, hg, hgM, hic, hi1, hi2, hi3⟩ := hN2
  have hN5 : l.length < 100000 := by omega
  have hc16 := okc_16 hoc1
  have ht16 := okc_16 hoc2
  have hv16 := okc_16 hoc3
  have ho16 := okc_16 hoc4
  refine lv_iload_n hx hb dX3_nodes_0 rfl (lv_at hl 1 rfl) ?_
  refine lv_if_ne (tgt := 14) hx hb dX3_nodes_1 (by decide) (fun c1 => ?_) (fun c1 => ?_)
  · refine lv_aload_n hx hb dX3_nodes_14 rfl (lv_at hl 0 rfl) ?_
    refine va_get (D := D) (ci := 3) (v := .int (bI (st = true))) (C := RX3) (T := TX3) (N := 11) hx hb hts hiX3 hown hK hP 0 rfl rfl 2 (by decide) wf51 (fun _ h9 => h9) rfl dX3_nodes_15 ?_
    refine lv_if_eq (tgt := 31) hx hb dX3_nodes_18 (by decide) (fun c18 => ?_) (fun c18 => ?_)
    · have c18 := bI_0.mp c18
      have hst : ¬ st = true := c18
      refine lv_iconst (v := nI 0) hx hb dX3_nodes_31 (by decide) ?_
      refine x_top (show nI 0 = nI (sL l inp ic st q).length from by rw [sL, if_neg c1, tNet_f hst]; rfl) ?_
      exact x_iret hQ hAe hx hb hr hlocks (rfl) hS hK (Nat.zero_le _) (Nat.zero_le _) dX3_nodes_32 () hP hD (rfl)
    · have c18 := Decidable.not_not.mp (mt bI_0.mpr c18)
      have hst : st = true := c18
      obtain ⟨S, hS1, hT1, hT2, hT3, hT4⟩ := MI_tw hMI hst
      obtain ⟨hTr, hTn, hTg, hTc, hTv, hTw⟩ := hT1
      refine lv_aload_n hx hb dX3_nodes_21 rfl (lv_at hl 0 rfl) ?_
      refine va_get (D := D) (ci := 3) (v := .ref ht) (C := RX3) (T := TX3) (N := 11) hx hb hts hiX3 hown hK hP 0 rfl rfl 1 (by decide) wf18 (fun _ h9 => h9) rfl dX3_nodes_22 ?_
      refine va_get (D := D) (ci := 2) (v := .int (nI tnc)) (C := RX2) (T := TX2) (N := 5) hx hb hts hiX2 hown hK hP 4 rfl rfl 2 (by decide) wf78 (fun _ h9 => h9) rfl dX3_nodes_25 ?_
      refine x_top (show nI tnc = nI (sL l inp ic st q).length from by rw [sL, if_neg c1, hT3, hTn]) ?_
      refine lv_goto (tgt := 32) hx hb dX3_nodes_28 (by decide) ?_
      exact x_iret hQ hAe hx hb hr hlocks (rfl) hS hK (Nat.zero_le _) (Nat.zero_le _) dX3_nodes_32 () hP hD (rfl)
  · refine lv_aload_n hx hb dX3_nodes_4 rfl (lv_at hl 0 rfl) ?_
    refine va_get (D := D) (ci := 3) (v := .ref hn) (C := RX3) (T := TX3) (N := 11) hx hb hts hiX3 hown hK hP 0 rfl rfl 0 (by decide) wf14 (fun _ h9 => h9) rfl dX3_nodes_5 ?_
    refine va_get (D := D) (ci := 2) (v := .int (nI l.length)) (C := RX2) (T := TX2) (N := 5) hx hb hts hiX2 hown hK hP 1 rfl rfl 2 (by decide) wf78 (fun _ h9 => h9) rfl dX3_nodes_8 ?_
    refine x_top (show nI l.length = nI (sL l inp ic st q).length from by rw [sL, if_pos c1]) ?_
    refine lv_goto (tgt := 32) hx hb dX3_nodes_11 (by decide) ?_
    exact x_iret hQ hAe hx hb hr hlocks (rfl) hS hK (Nat.zero_le _) (Nat.zero_le _) dX3_nodes_32 () hP hD (rfl)
set_option maxHeartbeats 4000000 in
set_option maxRecDepth 100000 in
theorem c_X3_gate (lch : Launch) (D : va_G) (cyI cyJ : ClassId) (sz : Nat) (y : Nat) (hn : Nat) (n1 : Nat) (n2 : Nat) (ht : Nat) (t1 : Nat) (t2 : Nat) (iv : Nat) (bv : Nat) (tv : Nat) (vv : Nat) (uv : Nat) (ov : Nat) (kv : Nat) (cap : Nat) (lf : Nat → Int32) (of : Nat → Int32) (tcap : Nat) (tlf : Nat → Int32) (tof : Nat → Int32) (tnc : Nat) (tgt : Nat) (nf : Nat → Int32) (ic : Nat) (bb : Nat → Int32) (tt : Nat → Int32) (vc : Nat) (vl : Nat → Int32) (tl : Nat → Int32) (oc : Nat) (nw : Nat → Int32) (mk : Nat → Int32) (l : NT) (inp : Nat → Nat) (st : Bool) (q : Int32) (nd : Int32) (wh : Int32) (hMI : MI l inp ic st cap lf of tcap tlf tof tnc tgt nf vc vl tl oc) : Met lch yX3_gate wsX3_gate ({ frames := 0, cells := 320, slots := 10240, locals := 0 } : Room) (va_Pc [.ref y, .int q, .int nd, .int wh] (xA D (xTy cyI cyJ) sz [(y, .inr (3, [.ref hn, .ref ht, .int (bI (st = true)), .ref iv, .int (nI ic), .ref bv, .ref tv, .ref vv, .ref uv, .ref ov, .ref kv])), (hn, .inr (2, [.ref n1, .ref n2, .int (nI l.length), .int (nI (nGates l)), .int (nI 400)])), (n1, .inl (cyI, cap, .inl lf)), (n2, .inl (cyI, cap, .inl of)), (ht, .inr (2, [.ref t1, .ref t2, .int (nI tnc), .int (nI tgt), .int (nI 1500)])), (t1, .inl (cyI, tcap, .inl tlf)), (t2, .inl (cyI, tcap, .inl tof)), (iv, .inl (cyI, 64, .inl nf)), (bv, .inl (cyI, 64, .inl bb)), (tv, .inl (cyI, 64, .inl tt)), (vv, .inl (cyI, vc, .inl vl)), (uv, .inl (cyI, vc, .inl tl)), (ov, .inl (cyI, oc, .inl nw)), (kv, .inl (cyI, oc, .inl mk))])) (va_Qi (fun (r : Int32) (u : Unit) => r = sGate l inp ic st q nd wh) (fun (u : Unit) t => xB D (xTy cyI cyJ) sz [(y, .inr (3, [.ref hn, .ref ht, .int (bI (st = true)), .ref iv, .int (nI ic), .ref bv, .ref tv, .ref vv, .ref uv, .ref ov, .ref kv])), (hn, .inr (2, [.ref n1, .ref n2, .int (nI l.length), .int (nI (nGates l)), .int (nI 400)])), (n1, .inl (cyI, cap, .inl lf)), (n2, .inl (cyI, cap, .inl of)), (ht, .inr (2, [.ref t1, .ref t2, .int (nI tnc), .int (nI tgt), .int (nI 1500)])), (t1, .inl (cyI, tcap, .inl tlf)), (t2, .inl (cyI, tcap, .inl tof)), (iv, .inl (cyI, 64, .inl nf)), (bv, .inl (cyI, 64, .inl bb)), (tv, .inl (cyI, 64, .inl tt)), (vv, .inl (cyI, vc, .inl vl)), (uv, .inl (cyI, vc, .inl tl)), (ov, .inl (cyI, oc, .inl nw)), (kv, .inl (cyI, oc, .inl mk))] [(y, .inr (3, [.ref hn, .ref ht, .int (bI (st = true)), .ref iv, .int (nI ic), .ref bv, .ref tv, .ref vv, .ref uv, .ref ov, .ref kv])), (hn, .inr (2, [.ref n1, .ref n2, .int (nI l.length), .int (nI (nGates l)), .int (nI 400)])), (n1, .inl (cyI, cap, .inl lf)), (n2, .inl (cyI, cap, .inl of)), (ht, .inr (2, [.ref t1, .ref t2, .int (nI tnc), .int (nI tgt), .int (nI 1500)])), (t1, .inl (cyI, tcap, .inl tlf)), (t2, .inl (cyI, tcap, .inl tof)), (iv, .inl (cyI, 64, .inl nf)), (bv, .inl (cyI, 64, .inl bb)), (tv, .inl (cyI, 64, .inl tt)), (vv, .inl (cyI, vc, .inl vl)), (uv, .inl (cyI, vc, .inl tl)), (ov, .inl (cyI, oc, .inl nw)), (kv, .inl (cyI, oc, .inl mk))] t) (va_A [(y, .inr (3, [.ref hn, .ref ht, .int (bI (st = true)), .ref iv, .int (nI ic), .ref bv, .ref tv, .ref vv, .ref uv, .ref ov, .ref kv])), (hn, .inr (2, [.ref n1, .ref n2, .int (nI l.length), .int (nI (nGates l)), .int (nI 400)])), (n1, .inl (cyI, cap, .inl lf)), (n2, .inl (cyI, cap, .inl of)), (ht, .inr (2, [.ref t1, .ref t2, .int (nI tnc), .int (nI tgt), .int (nI 1500)])), (t1, .inl (cyI, tcap, .inl tlf)), (t2, .inl (cyI, tcap, .inl tof)), (iv, .inl (cyI, 64, .inl nf)), (bv, .inl (cyI, 64, .inl bb)), (tv, .inl (cyI, 64, .inl tt)), (vv, .inl (cyI, vc, .inl vl)), (uv, .inl (cyI, vc, .inl tl)), (ov, .inl (cyI, oc, .inl nw)), (kv, .inl (cyI, oc, .inl mk))] sz)) 320 10240 (va_A [(y, .inr (3, [.ref hn, .ref ht, .int (bI (st = true)), .ref iv, .int (nI ic), .ref bv, .ref tv, .ref vv, .ref uv, .ref ov, .ref kv])), (hn, .inr (2, [.ref n1, .ref n2, .int (nI l.length), .int (nI (nGates l)), .int (nI 400)])), (n1, .inl (cyI, cap, .inl lf)), (n2, .inl (cyI, cap, .inl of)), (ht, .inr (2, [.ref t1, .ref t2, .int (nI tnc), .int (nI tgt), .int (nI 1500)])), (t1, .inl (cyI, tcap, .inl tlf)), (t2, .inl (cyI, tcap, .inl tof)), (iv, .inl (cyI, 64, .inl nf)), (bv, .inl (cyI, 64, .inl bb)), (tv, .inl (cyI, 64, .inl tt)), (vv, .inl (cyI, vc, .inl vl)), (uv, .inl (cyI, vc, .inl tl)), (ov, .inl (cyI, oc, .inl nw)), (kv, .inl (cyI, oc, .inl mk))] sz) := by
  refine x_met RX3 (by decide) rfl rfl (Nat.le_of_ble_eq_true rfl) ?_
  intro p e s m below meth c A Q hAe hQ hx hb hr hlocks hml hnm hts hown hNN hK hsz hP hD hS hA ls hl
  have wf14 := hts (.fieldLink RX3 14 "NetTwinModel" "net" "LNetTwinModel$Nodes;") (by decide +kernel)
  have hiX3 : ∀ w ∈ u_ws RX3 TX3 11, w ∈ wsX3_gate := by decide +kernel
  have wf78 := hts (.fieldLink RX3 78 "NetTwinModel$Nodes" "count" "I") (by decide +kernel)
  have hiX2 : ∀ w ∈ u_ws RX2 TX2 5, w ∈ wsX3_gate := by decide +kernel
  have wf84 := hts (.fieldLink RX3 84 "NetTwinModel$Nodes" "right" "[I") (by decide +kernel)
  have wf81 := hts (.fieldLink RX3 81 "NetTwinModel$Nodes" "left" "[I") (by decide +kernel)
  have wf18 := hts (.fieldLink RX3 18 "NetTwinModel" "twin" "LNetTwinModel$Nodes;") (by decide +kernel)
  have wf51 := hts (.fieldLink RX3 51 "NetTwinModel" "isTwin" "Z") (by decide +kernel)
  have hP : va_P D vwCl [(y, .inr (3, [.ref hn, .ref ht, .int (bI (st = true)), .ref iv, .int (nI ic), .ref bv, .ref tv, .ref vv, .ref uv, .ref ov, .ref kv])), (hn, .inr (2, [.ref n1, .ref n2, .int (nI l.length), .int (nI (nGates l)), .int (nI 400)])), (n1, .inl (cyI, cap, .inl lf)), (n2, .inl (cyI, cap, .inl of)), (ht, .inr (2, [.ref t1, .ref t2, .int (nI tnc), .int (nI tgt), .int (nI 1500)])), (t1, .inl (cyI, tcap, .inl tlf)), (t2, .inl (cyI, tcap, .inl tof)), (iv, .inl (cyI, 64, .inl nf)), (bv, .inl (cyI, 64, .inl bb)), (tv, .inl (cyI, 64, .inl tt)), (vv, .inl (cyI, vc, .inl vl)), (uv, .inl (cyI, vc, .inl tl)), (ov, .inl (cyI, oc, .inl nw)), (kv, .inl (cyI, oc, .inl mk))] s.heap := hP
  have hD : va_D A [(y, .inr (3, [.ref hn, .ref ht, .int (bI (st = true)), .ref iv, .int (nI ic), .ref bv, .ref tv, .ref vv, .ref uv, .ref ov, .ref kv])), (hn, .inr (2, [.ref n1, .ref n2, .int (nI l.length), .int (nI (nGates l)), .int (nI 400)])), (n1, .inl (cyI, cap, .inl lf)), (n2, .inl (cyI, cap, .inl of)), (ht, .inr (2, [.ref t1, .ref t2, .int (nI tnc), .int (nI tgt), .int (nI 1500)])), (t1, .inl (cyI, tcap, .inl tlf)), (t2, .inl (cyI, tcap, .inl tof)), (iv, .inl (cyI, 64, .inl nf)), (bv, .inl (cyI, 64, .inl bb)), (tv, .inl (cyI, 64, .inl tt)), (vv, .inl (cyI, vc, .inl vl)), (uv, .inl (cyI, vc, .inl tl)), (ov, .inl (cyI, oc, .inl nw)), (kv, .inl (cyI, oc, .inl mk))] := hD
  have hl : lv_has ls 6 [(0, .ref y), (1, .int q), (2, .int nd), (3, .int wh)] := hl
  have hM2 := hMI
  obtain ⟨hNI, hrp, hcl, hoc1, hoc2, hoc3, hvc, hoc4, hin, -⟩ := hM2
  have hN2 := hNI
  obtain ⟨hok, hg, hgM, hic, hi1, hi2, hi3⟩ := hN2
  have hN5 : l.length < 100000 := by omega
  have hc16 := okc_16 hoc1
  have ht16 := okc_16 hoc2
  have hv16 := okc_16 hoc3
  have ho16 := okc_16 hoc4
  have hLL := sL_len (st := st) (q := q) hNI
  refine lv_iload_n hx hb dX3_gate_0 rfl (lv_at hl 1 rfl) ?_
  refine lv_if_eq (tgt := 11) hx hb dX3_gate_1 (by decide) (fun c1 => ?_) (fun c1 => ?_)
  · have eS : sL l inp ic st q = l := by rw [sL, if_pos c1]
    refine lv_aload_n hx hb dX3_gate_11 rfl (lv_at hl 0 rfl) ?_
    refine va_get (D := D) (ci := 3) (v := .ref hn) (C := RX3) (T := TX3) (N := 11) hx hb hts hiX3 hown hK hP 0 rfl rfl 0 (by decide) wf14 (fun _ h9 => h9) rfl dX3_gate_12 ?_
    refine lv_astore (lv' := [(4, .ref hn), (0, .ref y), (1, .int q), (2, .int nd), (3, .int wh)]) hx hb dX3_gate_15 hl (by decide) rfl (fun ls hl => ?_)
    refine lv_iload_n hx hb dX3_gate_17 rfl (lv_at hl 2 rfl) ?_
    refine lv_if_eq (tgt := 28) hx hb dX3_gate_18 (by decide) (fun c18 => ?_) (fun c18 => absurd (c1) c18)
    refine lv_iload_n hx hb dX3_gate_28 rfl (lv_at hl 3 rfl) ?_
    refine lv_if_lt (tgt := 45) hx hb dX3_gate_29 (by decide) (fun c29 => ?_) (fun c29 => ?_)
    · have hbad : ¬ (0 ≤ nd ∧ nd < nI (sL l inp ic st q).length) := fun z => absurd c29 (Int32.not_lt.mpr z.1)
      refine lv_iconst (v := nI 0) hx hb dX3_gate_45 (by decide) ?_
      refine lv_istore (lv' := [(5, .int (nI 0)), (4, .ref hn), (0, .ref y), (1, .int q), (2, .int nd), (3, .int wh)]) hx hb dX3_gate_46 hl (by decide) rfl (fun ls hl => ?_)
      refine lv_iload hx hb dX3_gate_48 (lv_at hl 0 rfl) ?_
      refine lv_if_eq (tgt := 62) hx hb dX3_gate_50 (by decide) (fun c50 => ?_) (fun c50 => absurd (nI_0) c50)
      refine lv_iconst (v := (-1)) hx hb dX3_gate_62 (by decide) ?_
      refine x_top (show (-1) = sGate l inp ic st q nd wh from (sGate_bad hbad).symm) ?_
      refine lv_goto (tgt := 87) hx hb dX3_gate_63 (by decide) ?_
      exact x_iret hQ hAe hx hb hr hlocks (rfl) hS hK (Nat.zero_le _) (Nat.zero_le _) dX3_gate_87 () hP hD (rfl)
    · refine lv_iload_n hx hb dX3_gate_32 rfl (lv_at hl 3 rfl) ?_
      refine lv_aload hx hb dX3_gate_33 (lv_at hl 0 rfl) ?_
      refine va_get (D := D) (ci := 2) (v := .int (nI l.length)) (C := RX2) (T := TX2) (N := 5) hx hb hts hiX2 hown hK hP 1 rfl rfl 2 (by decide) wf78 (fun _ h9 => h9) rfl dX3_gate_35 ?_
      refine lv_icmp_ge (tgt := 45) hx hb dX3_gate_38 (by decide) (fun c38 => ?_) (fun c38 => ?_)
      · have hbad : ¬ (0 ≤ nd ∧ nd < nI (sL l inp ic st q).length) := fun z => by
          rw [eS] at z
          exact absurd z.2 (Int32.not_lt.mpr c38)
        refine lv_iconst (v := nI 0) hx hb dX3_gate_45 (by decide) ?_
        refine lv_istore (lv' := [(5, .int (nI 0)), (4, .ref hn), (0, .ref y), (1, .int q), (2, .int nd), (3, .int wh)]) hx hb dX3_gate_46 hl (by decide) rfl (fun ls hl => ?_)
        refine lv_iload hx hb dX3_gate_48 (lv_at hl 0 rfl) ?_
        refine lv_if_eq (tgt := 62) hx hb dX3_gate_50 (by decide) (fun c50 => ?_) (fun c50 => absurd (nI_0) c50)
        refine lv_iconst (v := (-1)) hx hb dX3_gate_62 (by decide) ?_
        refine x_top (show (-1) = sGate l inp ic st q nd wh from (sGate_bad hbad).symm) ?_
        refine lv_goto (tgt := 87) hx hb dX3_gate_63 (by decide) ?_
        exact x_iret hQ hAe hx hb hr hlocks (rfl) hS hK (Nat.zero_le _) (Nat.zero_le _) dX3_gate_87 () hP hD (rfl)
      · have c38 := Int32.not_le.mp c38
        refine lv_iconst (v := nI 1) hx hb dX3_gate_41 (by decide) ?_
        refine lv_goto (tgt := 46) hx hb dX3_gate_42 (by decide) ?_
        refine lv_istore (lv' := [(5, .int (nI 1)), (4, .ref hn), (0, .ref y), (1, .int q), (2, .int nd), (3, .int wh)]) hx hb dX3_gate_46 hl (by decide) rfl (fun ls hl => ?_)
        refine lv_iload hx hb dX3_gate_48 (lv_at hl 0 rfl) ?_
        refine lv_if_eq (tgt := 62) hx hb dX3_gate_50 (by decide) (fun c50 => absurd c50 (by decide)) (fun c50 => ?_)
        refine lv_iload_n hx hb dX3_gate_53 rfl (lv_at hl 5 rfl) ?_
        refine lv_if_lt (tgt := 62) hx hb dX3_gate_54 (by decide) (fun c54 => ?_) (fun c54 => ?_)
        · refine lv_iconst (v := (-1)) hx hb dX3_gate_62 (by decide) ?_
          refine x_top (show (-1) = sGate l inp ic st q nd wh from (sGate_w (Or.inl c54)).symm) ?_
          refine lv_goto (tgt := 87) hx hb dX3_gate_63 (by decide) ?_
          exact x_iret hQ hAe hx hb hr hlocks (rfl) hS hK (Nat.zero_le _) (Nat.zero_le _) dX3_gate_87 () hP hD (rfl)
        · refine lv_iload_n hx hb dX3_gate_57 rfl (lv_at hl 5 rfl) ?_
          refine lv_iconst (v := nI 1) hx hb dX3_gate_58 (by decide) ?_
          refine lv_icmp_le (tgt := 66) hx hb dX3_gate_59 (by decide) (fun c59 => ?_) (fun c59 => ?_)
          · obtain ⟨k, hk31, rfl⟩ := nI_of c29
            have hkl := (nI_ltI hk31 (by omega)).mp c38
            refine lv_iload_n hx hb dX3_gate_66 rfl (lv_at hl 5 rfl) ?_
            refine lv_if_ne (tgt := 80) hx hb dX3_gate_67 (by decide) (fun c67 => ?_) (fun c67 => ?_)
            · refine lv_aload hx hb dX3_gate_80 (lv_at hl 1 rfl) ?_
              refine va_get (D := D) (ci := 2) (v := .ref n2) (C := RX2) (T := TX2) (N := 5) hx hb hts hiX2 hown hK hP 1 rfl rfl 1 (by decide) wf84 (fun _ h9 => h9) rfl dX3_gate_82 ?_
              refine lv_iload_n hx hb dX3_gate_85 rfl (lv_at hl 4 rfl) ?_
              refine x_iald hx hb hK hP 3 0 rfl rfl (by omega) (by omega) dX3_gate_86 ?_
              refine x_top (show of k = sGate l inp ic st q (nI k) wh from by rw [sGate_1 (by omega) (by omega) (by rw [eS]; omega) (wh_1 c54 c67 c59), eS]; exact (hrp k hkl).2) ?_
              exact x_iret hQ hAe hx hb hr hlocks (rfl) hS hK (Nat.zero_le _) (Nat.zero_le _) dX3_gate_87 () hP hD (rfl)
            · refine lv_aload hx hb dX3_gate_70 (lv_at hl 1 rfl) ?_
              refine va_get (D := D) (ci := 2) (v := .ref n1) (C := RX2) (T := TX2) (N := 5) hx hb hts hiX2 hown hK hP 1 rfl rfl 0 (by decide) wf81 (fun _ h9 => h9) rfl dX3_gate_72 ?_
              refine lv_iload_n hx hb dX3_gate_75 rfl (lv_at hl 4 rfl) ?_
              refine x_iald hx hb hK hP 2 0 rfl rfl (by omega) (by omega) dX3_gate_76 ?_
              refine x_top (show lf k = sGate l inp ic st q (nI k) wh from by rw [sGate_0 (by omega) (by omega) (by rw [eS]; omega) c67, eS]; exact (hrp k hkl).1) ?_
              refine lv_goto (tgt := 87) hx hb dX3_gate_77 (by decide) ?_
              exact x_iret hQ hAe hx hb hr hlocks (rfl) hS hK (Nat.zero_le _) (Nat.zero_le _) dX3_gate_87 () hP hD (rfl)
          · refine lv_iconst (v := (-1)) hx hb dX3_gate_62 (by decide) ?_
            refine x_top (show (-1) = sGate l inp ic st q nd wh from (sGate_w (Or.inr c59)).symm) ?_
            refine lv_goto (tgt := 87) hx hb dX3_gate_63 (by decide) ?_
            exact x_iret hQ hAe hx hb hr hlocks (rfl) hS hK (Nat.zero_le _) (Nat.zero_le _) dX3_gate_87 () hP hD (rfl)
  · have eS2 : sL l inp ic st q = tNet l inp ic st := by rw [sL, if_neg c1]
    refine lv_aload_n hx hb dX3_gate_4 rfl (lv_at hl 0 rfl) ?_
    refine va_get (D := D) (ci := 3) (v := .ref ht) (C := RX3) (T := TX3) (N := 11) hx hb hts hiX3 hown hK hP 0 rfl rfl 1 (by decide) wf18 (fun _ h9 => h9) rfl dX3_gate_5 ?_
    refine lv_goto (tgt := 15) hx hb dX3_gate_8 (by decide) ?_
    refine lv_astore (lv' := [(4, .ref ht), (0, .ref y), (1, .int q), (2, .int nd), (3, .int wh)]) hx hb dX3_gate_15 hl (by decide) rfl (fun ls hl => ?_)
    refine lv_iload_n hx hb dX3_gate_17 rfl (lv_at hl 2 rfl) ?_
    refine lv_if_eq (tgt := 28) hx hb dX3_gate_18 (by decide) (fun c18 => absurd c18 (c1)) (fun c18 => ?_)
    refine lv_aload_n hx hb dX3_gate_21 rfl (lv_at hl 1 rfl) ?_
    refine va_get (D := D) (ci := 3) (v := .int (bI (st = true))) (C := RX3) (T := TX3) (N := 11) hx hb hts hiX3 hown hK hP 0 rfl rfl 2 (by decide) wf51 (fun _ h9 => h9) rfl dX3_gate_22 ?_
    refine lv_if_eq (tgt := 45) hx hb dX3_gate_25 (by decide) (fun c25 => ?_) (fun c25 => ?_)
    · have c25 := bI_0.mp c25
      have hst : ¬ st = true := c25
      have hbad : ¬ (0 ≤ nd ∧ nd < nI (sL l inp ic st q).length) := fun z => by
        rw [eS2, tNet_f hst] at z
        have z2 : nd < 0 := z.2
        exact absurd z2 (Int32.not_lt.mpr z.1)
      refine lv_iconst (v := nI 0) hx hb dX3_gate_45 (by decide) ?_
      refine lv_istore (lv' := [(5, .int (nI 0)), (4, .ref ht), (0, .ref y), (1, .int q), (2, .int nd), (3, .int wh)]) hx hb dX3_gate_46 hl (by decide) rfl (fun ls hl => ?_)
      refine lv_iload hx hb dX3_gate_48 (lv_at hl 0 rfl) ?_
      refine lv_if_eq (tgt := 62) hx hb dX3_gate_50 (by decide) (fun c50 => ?_) (fun c50 => absurd (nI_0) c50)
      refine lv_iconst (v := (-1)) hx hb dX3_gate_62 (by decide) ?_
      refine x_top (show (-1) = sGate l inp ic st q nd wh from (sGate_bad hbad).symm) ?_
      refine lv_goto (tgt := 87) hx hb dX3_gate_63 (by decide) ?_
      exact x_iret hQ hAe hx hb hr hlocks (rfl) hS hK (Nat.zero_le _) (Nat.zero_le _) dX3_gate_87 () hP hD (rfl)
    · have c25 := Decidable.not_not.mp (mt bI_0.mpr c25)
      have hst : st = true := c25
      obtain ⟨S, hS1, hT1, hT2, hT3, hT4⟩ := MI_tw hMI hst
      obtain ⟨hTr, hTn, hTg, hTc, hTv, hTw⟩ := hT1
      have eS : sL l inp ic st q = S.1 := by rw [eS2, hT3]
      refine lv_iload_n hx hb dX3_gate_28 rfl (lv_at hl 3 rfl) ?_
      refine lv_if_lt (tgt := 45) hx hb dX3_gate_29 (by decide) (fun c29 => ?_) (fun c29 => ?_)
      · have hbad : ¬ (0 ≤ nd ∧ nd < nI (sL l inp ic st q).length) := fun z => absurd c29 (Int32.not_lt.mpr z.1)
        refine lv_iconst (v := nI 0) hx hb dX3_gate_45 (by decide) ?_
        refine lv_istore (lv' := [(5, .int (nI 0)), (4, .ref ht), (0, .ref y), (1, .int q), (2, .int nd), (3, .int wh)]) hx hb dX3_gate_46 hl (by decide) rfl (fun ls hl => ?_)
        refine lv_iload hx hb dX3_gate_48 (lv_at hl 0 rfl) ?_
        refine lv_if_eq (tgt := 62) hx hb dX3_gate_50 (by decide) (fun c50 => ?_) (fun c50 => absurd (nI_0) c50)
        refine lv_iconst (v := (-1)) hx hb dX3_gate_62 (by decide) ?_
        refine x_top (show (-1) = sGate l inp ic st q nd wh from (sGate_bad hbad).symm) ?_
        refine lv_goto (tgt := 87) hx hb dX3_gate_63 (by decide) ?_
        exact x_iret hQ hAe hx hb hr hlocks (rfl) hS hK (Nat.zero_le _) (Nat.zero_le _) dX3_gate_87 () hP hD (rfl)
      · refine lv_iload_n hx hb dX3_gate_32 rfl (lv_at hl 3 rfl) ?_
        refine lv_aload hx hb dX3_gate_33 (lv_at hl 0 rfl) ?_
        refine va_get (D := D) (ci := 2) (v := .int (nI tnc)) (C := RX2) (T := TX2) (N := 5) hx hb hts hiX2 hown hK hP 4 rfl rfl 2 (by decide) wf78 (fun _ h9 => h9) rfl dX3_gate_35 ?_
        refine lv_icmp_ge (tgt := 45) hx hb dX3_gate_38 (by decide) (fun c38 => ?_) (fun c38 => ?_)
        · have hbad : ¬ (0 ≤ nd ∧ nd < nI (sL l inp ic st q).length) := fun z => by
            rw [eS, ← hTn] at z
            exact absurd z.2 (Int32.not_lt.mpr c38)
          refine lv_iconst (v := nI 0) hx hb dX3_gate_45 (by decide) ?_
          refine lv_istore (lv' := [(5, .int (nI 0)), (4, .ref ht), (0, .ref y), (1, .int q), (2, .int nd), (3, .int wh)]) hx hb dX3_gate_46 hl (by decide) rfl (fun ls hl => ?_)
          refine lv_iload hx hb dX3_gate_48 (lv_at hl 0 rfl) ?_
          refine lv_if_eq (tgt := 62) hx hb dX3_gate_50 (by decide) (fun c50 => ?_) (fun c50 => absurd (nI_0) c50)
          refine lv_iconst (v := (-1)) hx hb dX3_gate_62 (by decide) ?_
          refine x_top (show (-1) = sGate l inp ic st q nd wh from (sGate_bad hbad).symm) ?_
          refine lv_goto (tgt := 87) hx hb dX3_gate_63 (by decide) ?_
          exact x_iret hQ hAe hx hb hr hlocks (rfl) hS hK (Nat.zero_le _) (Nat.zero_le _) dX3_gate_87 () hP hD (rfl)
        · have c38 := Int32.not_le.mp c38
          refine lv_iconst (v := nI 1) hx hb dX3_gate_41 (by decide) ?_
          refine lv_goto (tgt := 46) hx hb dX3_gate_42 (by decide) ?_
          refine lv_istore (lv' := [(5, .int (nI 1)), (4, .ref ht), (0, .ref y), (1, .int q), (2, .int nd), (3, .int wh)]) hx hb dX3_gate_46 hl (by decide) rfl (fun ls hl => ?_)
          refine lv_iload hx hb dX3_gate_48 (lv_at hl 0 rfl) ?_
          refine lv_if_eq (tgt := 62) hx hb dX3_gate_50 (by decide) (fun c50 => absurd c50 (by decide)) (fun c50 => ?_)
          refine lv_iload_n hx hb dX3_gate_53 rfl (lv_at hl 5 rfl) ?_
          refine lv_if_lt (tgt := 62) hx hb dX3_gate_54 (by decide) (fun c54 => ?_) (fun c54 => ?_)
          · refine lv_iconst (v := (-1)) hx hb dX3_gate_62 (by decide) ?_
            refine x_top (show (-1) = sGate l inp ic st q nd wh from (sGate_w (Or.inl c54)).symm) ?_
            refine lv_goto (tgt := 87) hx hb dX3_gate_63 (by decide) ?_
            exact x_iret hQ hAe hx hb hr hlocks (rfl) hS hK (Nat.zero_le _) (Nat.zero_le _) dX3_gate_87 () hP hD (rfl)
          · refine lv_iload_n hx hb dX3_gate_57 rfl (lv_at hl 5 rfl) ?_
            refine lv_iconst (v := nI 1) hx hb dX3_gate_58 (by decide) ?_
            refine lv_icmp_le (tgt := 66) hx hb dX3_gate_59 (by decide) (fun c59 => ?_) (fun c59 => ?_)
            · obtain ⟨k, hk31, rfl⟩ := nI_of c29
              have hkl := (nI_ltI hk31 (by omega)).mp c38
              refine lv_iload_n hx hb dX3_gate_66 rfl (lv_at hl 5 rfl) ?_
              refine lv_if_ne (tgt := 80) hx hb dX3_gate_67 (by decide) (fun c67 => ?_) (fun c67 => ?_)
              · refine lv_aload hx hb dX3_gate_80 (lv_at hl 1 rfl) ?_
                refine va_get (D := D) (ci := 2) (v := .ref t2) (C := RX2) (T := TX2) (N := 5) hx hb hts hiX2 hown hK hP 4 rfl rfl 1 (by decide) wf84 (fun _ h9 => h9) rfl dX3_gate_82 ?_
                refine lv_iload_n hx hb dX3_gate_85 rfl (lv_at hl 4 rfl) ?_
                refine x_iald hx hb hK hP 6 0 rfl rfl (by omega) (by omega) dX3_gate_86 ?_
                refine x_top (show tof k = sGate l inp ic st q (nI k) wh from by rw [sGate_1 (by omega) (by omega) (by rw [eS]; omega) (wh_1 c54 c67 c59), eS]; exact (hTr k (by omega)).2) ?_
                exact x_iret hQ hAe hx hb hr hlocks (rfl) hS hK (Nat.zero_le _) (Nat.zero_le _) dX3_gate_87 () hP hD (rfl)
              · refine lv_aload hx hb dX3_gate_70 (lv_at hl 1 rfl) ?_
                refine va_get (D := D) (ci := 2) (v := .ref t1) (C := RX2) (T := TX2) (N := 5) hx hb hts hiX2 hown hK hP 4 rfl rfl 0 (by decide) wf81 (fun _ h9 => h9) rfl dX3_gate_72 ?_
                refine lv_iload_n hx hb dX3_gate_75 rfl (lv_at hl 4 rfl) ?_
                refine x_iald hx hb hK hP 5 0 rfl rfl (by omega) (by omega) dX3_gate_76 ?_
                refine x_top (show tlf k = sGate l inp ic st q (nI k) wh from by rw [sGate_0 (by omega) (by omega) (by rw [eS]; omega) c67, eS]; exact (hTr k (by omega)).1) ?_
                refine lv_goto (tgt := 87) hx hb dX3_gate_77 (by decide) ?_
                exact x_iret hQ hAe hx hb hr hlocks (rfl) hS hK (Nat.zero_le _) (Nat.zero_le _) dX3_gate_87 () hP hD (rfl)
            · refine lv_iconst (v := (-1)) hx hb dX3_gate_62 (by decide) ?_
              refine x_top (show (-1) = sGate l inp ic st q nd wh from (sGate_w (Or.inr c59)).symm) ?_
              refine lv_goto (tgt := 87) hx hb dX3_gate_63 (by decide) ?_
              exact x_iret hQ hAe hx hb hr hlocks (rfl) hS hK (Nat.zero_le _) (Nat.zero_le _) dX3_gate_87 () hP hD (rfl)
set_option maxHeartbeats 4000000 in
set_option maxRecDepth 100000 in
theorem c_X3_twinOf (lch : Launch) (D : va_G) (cyI cyJ : ClassId) (sz : Nat) (y : Nat) (hn : Nat) (n1 : Nat) (n2 : Nat) (ht : Nat) (t1 : Nat) (t2 : Nat) (iv : Nat) (bv : Nat) (tv : Nat) (vv : Nat) (uv : Nat) (ov : Nat) (kv : Nat) (cap : Nat) (lf : Nat → Int32) (of : Nat → Int32) (tcap : Nat) (tlf : Nat → Int32) (tof : Nat → Int32) (tnc : Nat) (tgt : Nat) (nf : Nat → Int32) (ic : Nat) (bb : Nat → Int32) (tt : Nat → Int32) (vc : Nat) (vl : Nat → Int32) (tl : Nat → Int32) (oc : Nat) (nw : Nat → Int32) (mk : Nat → Int32) (l : NT) (inp : Nat → Nat) (st : Bool) (lit : Int32) (q : Int32) (hMI : MI l inp ic st cap lf of tcap tlf tof tnc tgt nf vc vl tl oc) : Met lch yX3_twinOf wsX3_twinOf ({ frames := 2, cells := 320, slots := 10240, locals := 41 } : Room) (va_Pc [.ref y, .int lit, .int q] (xA D (xTy cyI cyJ) sz [(y, .inr (3, [.ref hn, .ref ht, .int (bI (st = true)), .ref iv, .int (nI ic), .ref bv, .ref tv, .ref vv, .ref uv, .ref ov, .ref kv])), (hn, .inr (2, [.ref n1, .ref n2, .int (nI l.length), .int (nI (nGates l)), .int (nI 400)])), (n1, .inl (cyI, cap, .inl lf)), (n2, .inl (cyI, cap, .inl of)), (ht, .inr (2, [.ref t1, .ref t2, .int (nI tnc), .int (nI tgt), .int (nI 1500)])), (t1, .inl (cyI, tcap, .inl tlf)), (t2, .inl (cyI, tcap, .inl tof)), (iv, .inl (cyI, 64, .inl nf)), (bv, .inl (cyI, 64, .inl bb)), (tv, .inl (cyI, 64, .inl tt)), (vv, .inl (cyI, vc, .inl vl)), (uv, .inl (cyI, vc, .inl tl)), (ov, .inl (cyI, oc, .inl nw)), (kv, .inl (cyI, oc, .inl mk))])) (va_Qi (fun (r : Int32) (u : Unit) => r = sTwinOf l inp ic st lit q) (fun (u : Unit) t => xB D (xTy cyI cyJ) sz [(y, .inr (3, [.ref hn, .ref ht, .int (bI (st = true)), .ref iv, .int (nI ic), .ref bv, .ref tv, .ref vv, .ref uv, .ref ov, .ref kv])), (hn, .inr (2, [.ref n1, .ref n2, .int (nI l.length), .int (nI (nGates l)), .int (nI 400)])), (n1, .inl (cyI, cap, .inl lf)), (n2, .inl (cyI, cap, .inl of)), (ht, .inr (2, [.ref t1, .ref t2, .int (nI tnc), .int (nI tgt), .int (nI 1500)])), (t1, .inl (cyI, tcap, .inl tlf)), (t2, .inl (cyI, tcap, .inl tof)), (iv, .inl (cyI, 64, .inl nf)), (bv, .inl (cyI, 64, .inl bb)), (tv, .inl (cyI, 64, .inl tt)), (vv, .inl (cyI, vc, .inl vl)), (uv, .inl (cyI, vc, .inl tl)), (ov, .inl (cyI, oc, .inl nw)), (kv, .inl (cyI, oc, .inl mk))] [(y, .inr (3, [.ref hn, .ref ht, .int (bI (st = true)), .ref iv, .int (nI ic), .ref bv, .ref tv, .ref vv, .ref uv, .ref ov, .ref kv])), (hn, .inr (2, [.ref n1, .ref n2, .int (nI l.length), .int (nI (nGates l)), .int (nI 400)])), (n1, .inl (cyI, cap, .inl lf)), (n2, .inl (cyI, cap, .inl of)), (ht, .inr (2, [.ref t1, .ref t2, .int (nI tnc), .int (nI tgt), .int (nI 1500)])), (t1, .inl (cyI, tcap, .inl tlf)), (t2, .inl (cyI, tcap, .inl tof)), (iv, .inl (cyI, 64, .inl nf)), (bv, .inl (cyI, 64, .inl bb)), (tv, .inl (cyI, 64, .inl tt)), (vv, .inl (cyI, vc, .inl vl)), (uv, .inl (cyI, vc, .inl tl)), (ov, .inl (cyI, oc, .inl nw)), (kv, .inl (cyI, oc, .inl mk))] t) (va_A [(y, .inr (3, [.ref hn, .ref ht, .int (bI (st = true)), .ref iv, .int (nI ic), .ref bv, .ref tv, .ref vv, .ref uv, .ref ov, .ref kv])), (hn, .inr (2, [.ref n1, .ref n2, .int (nI l.length), .int (nI (nGates l)), .int (nI 400)])), (n1, .inl (cyI, cap, .inl lf)), (n2, .inl (cyI, cap, .inl of)), (ht, .inr (2, [.ref t1, .ref t2, .int (nI tnc), .int (nI tgt), .int (nI 1500)])), (t1, .inl (cyI, tcap, .inl tlf)), (t2, .inl (cyI, tcap, .inl tof)), (iv, .inl (cyI, 64, .inl nf)), (bv, .inl (cyI, 64, .inl bb)), (tv, .inl (cyI, 64, .inl tt)), (vv, .inl (cyI, vc, .inl vl)), (uv, .inl (cyI, vc, .inl tl)), (ov, .inl (cyI, oc, .inl nw)), (kv, .inl (cyI, oc, .inl mk))] sz)) 320 10240 (va_A [(y, .inr (3, [.ref hn, .ref ht, .int (bI (st = true)), .ref iv, .int (nI ic), .ref bv, .ref tv, .ref vv, .ref uv, .ref ov, .ref kv])), (hn, .inr (2, [.ref n1, .ref n2, .int (nI l.length), .int (nI (nGates l)), .int (nI 400)])), (n1, .inl (cyI, cap, .inl lf)), (n2, .inl (cyI, cap, .inl of)), (ht, .inr (2, [.ref t1, .ref t2, .int (nI tnc), .int (nI tgt), .int (nI 1500)])), (t1, .inl (cyI, tcap, .inl tlf)), (t2, .inl (cyI, tcap, .inl tof)), (iv, .inl (cyI, 64, .inl nf)), (bv, .inl (cyI, 64, .inl bb)), (tv, .inl (cyI, 64, .inl tt)), (vv, .inl (cyI, vc, .inl vl)), (uv, .inl (cyI, vc, .inl tl)), (ov, .inl (cyI, oc, .inl nw)), (kv, .inl (cyI, oc, .inl mk))] sz) := by
  refine x_met RX3 (by decide) rfl rfl (Nat.le_of_ble_eq_true rfl) ?_
  intro p e s m below meth c A Q hAe hQ hx hb hr hlocks hml hnm hts hown hNN hK hsz hP hD hS hA ls hl
  have wf51 := hts (.fieldLink RX3 51 "NetTwinModel" "isTwin" "Z") (by decide +kernel)
  have hiX3 : ∀ w ∈ u_ws RX3 TX3 11, w ∈ wsX3_twinOf := by decide +kernel
  have wf14 := hts (.fieldLink RX3 14 "NetTwinModel" "net" "LNetTwinModel$Nodes;") (by decide +kernel)
  have wf31 := hts (.fieldLink RX3 31 "NetTwinModel" "valueOf" "[I") (by decide +kernel)
  have wf34 := hts (.fieldLink RX3 34 "NetTwinModel" "taintOf" "[I") (by decide +kernel)
  have hP : va_P D vwCl [(y, .inr (3, [.ref hn, .ref ht, .int (bI (st = true)), .ref iv, .int (nI ic), .ref bv, .ref tv, .ref vv, .ref uv, .ref ov, .ref kv])), (hn, .inr (2, [.ref n1, .ref n2, .int (nI l.length), .int (nI (nGates l)), .int (nI 400)])), (n1, .inl (cyI, cap, .inl lf)), (n2, .inl (cyI, cap, .inl of)), (ht, .inr (2, [.ref t1, .ref t2, .int (nI tnc), .int (nI tgt), .int (nI 1500)])), (t1, .inl (cyI, tcap, .inl tlf)), (t2, .inl (cyI, tcap, .inl tof)), (iv, .inl (cyI, 64, .inl nf)), (bv, .inl (cyI, 64, .inl bb)), (tv, .inl (cyI, 64, .inl tt)), (vv, .inl (cyI, vc, .inl vl)), (uv, .inl (cyI, vc, .inl tl)), (ov, .inl (cyI, oc, .inl nw)), (kv, .inl (cyI, oc, .inl mk))] s.heap := hP
  have hD : va_D A [(y, .inr (3, [.ref hn, .ref ht, .int (bI (st = true)), .ref iv, .int (nI ic), .ref bv, .ref tv, .ref vv, .ref uv, .ref ov, .ref kv])), (hn, .inr (2, [.ref n1, .ref n2, .int (nI l.length), .int (nI (nGates l)), .int (nI 400)])), (n1, .inl (cyI, cap, .inl lf)), (n2, .inl (cyI, cap, .inl of)), (ht, .inr (2, [.ref t1, .ref t2, .int (nI tnc), .int (nI tgt), .int (nI 1500)])), (t1, .inl (cyI, tcap, .inl tlf)), (t2, .inl (cyI, tcap, .inl tof)), (iv, .inl (cyI, 64, .inl nf)), (bv, .inl (cyI, 64, .inl bb)), (tv, .inl (cyI, 64, .inl tt)), (vv, .inl (cyI, vc, .inl vl)), (uv, .inl (cyI, vc, .inl tl)), (ov, .inl (cyI, oc, .inl nw)), (kv, .inl (cyI, oc, .inl mk))] := hD
  have hl : lv_has ls 3 [(0, .ref y), (1, .int lit), (2, .int q)] := hl
  have hM2 := hMI
  obtain ⟨hNI, hrp, hcl, hoc1, hoc2, hoc3, hvc, hoc4, hin, -⟩ := hM2
  have hN2 := hNI
  obtain ⟨hok, hg, hgM, hic, hi1, hi2, hi3⟩ := hN2
  have hN5 : l.length < 100000 := by omega
  have hc16 := okc_16 hoc1
  have ht16 := okc_16 hoc2
  have hv16 := okc_16 hoc3
  have ho16 := okc_16 hoc4
  refine lv_aload_n hx hb dX3_twinOf_0 rfl (lv_at hl 0 rfl) ?_
  refine va_get (D := D) (ci := 3) (v := .int (bI (st = true))) (C := RX3) (T := TX3) (N := 11) hx hb hts hiX3 hown hK hP 0 rfl rfl 2 (by decide) wf51 (fun _ h9 => h9) rfl dX3_twinOf_1 ?_
  refine lv_if_eq (tgt := 18) hx hb dX3_twinOf_4 (by decide) (fun c4 => ?_) (fun c4 => ?_)
  · have c4 := bI_0.mp c4
    have hst : ¬ st = true := c4
    refine lv_iconst (v := (-1)) hx hb dX3_twinOf_18 (by decide) ?_
    refine x_top (show (-1) = sTwinOf l inp ic st lit q from (sTwinOf_f hst).symm) ?_
    refine lv_goto (tgt := 45) hx hb dX3_twinOf_19 (by decide) ?_
    exact x_iret hQ hAe hx hb hr hlocks (rfl) hS hK (Nat.zero_le _) (Nat.zero_le _) dX3_twinOf_45 () hP hD (rfl)
  · have c4 := Decidable.not_not.mp (mt bI_0.mpr c4)
    have hst : st = true := c4
    obtain ⟨S, hS1, hT1, hT2, hT3, hT4⟩ := MI_tw hMI hst
    obtain ⟨hTr, hTn, hTg, hTc, hTv, hTw⟩ := hT1
    refine lv_aload_n hx hb dX3_twinOf_7 rfl (lv_at hl 0 rfl) ?_
    refine va_get (D := D) (ci := 3) (v := .ref hn) (C := RX3) (T := TX3) (N := 11) hx hb hts hiX3 hown hK hP 0 rfl rfl 0 (by decide) wf14 (fun _ h9 => h9) rfl dX3_twinOf_8 ?_
    refine lv_iload_n hx hb dX3_twinOf_11 rfl (lv_at hl 1 rfl) ?_
    refine x_calli (wc := [(hn, .inr (2, [.ref n1, .ref n2, .int (nI l.length), .int (nI (nGates l)), .int (nI 400)])), (n1, .inl (cyI, cap, .inl lf)), (n2, .inl (cyI, cap, .inl of))]) (wr := [(y, .inr (3, [.ref hn, .ref ht, .int (bI (st = true)), .ref iv, .int (nI ic), .ref bv, .ref tv, .ref vv, .ref uv, .ref ov, .ref kv])), (ht, .inr (2, [.ref t1, .ref t2, .int (nI tnc), .int (nI tgt), .int (nI 1500)])), (t1, .inl (cyI, tcap, .inl tlf)), (t2, .inl (cyI, tcap, .inl tof)), (iv, .inl (cyI, 64, .inl nf)), (bv, .inl (cyI, 64, .inl bb)), (tv, .inl (cyI, 64, .inl tt)), (vv, .inl (cyI, vc, .inl vl)), (uv, .inl (cyI, vc, .inl tl)), (ov, .inl (cyI, oc, .inl nw)), (kv, .inl (cyI, oc, .inl mk))]) (w2 := fun (u : Unit) => [(y, .inr (3, [.ref hn, .ref ht, .int (bI (st = true)), .ref iv, .int (nI ic), .ref bv, .ref tv, .ref vv, .ref uv, .ref ov, .ref kv])), (hn, .inr (2, [.ref n1, .ref n2, .int (nI l.length), .int (nI (nGates l)), .int (nI 400)])), (n1, .inl (cyI, cap, .inl lf)), (n2, .inl (cyI, cap, .inl of)), (ht, .inr (2, [.ref t1, .ref t2, .int (nI tnc), .int (nI tgt), .int (nI 1500)])), (t1, .inl (cyI, tcap, .inl tlf)), (t2, .inl (cyI, tcap, .inl tof)), (iv, .inl (cyI, 64, .inl nf)), (bv, .inl (cyI, 64, .inl bb)), (tv, .inl (cyI, 64, .inl tt)), (vv, .inl (cyI, vc, .inl vl)), (uv, .inl (cyI, vc, .inl tl)), (ov, .inl (cyI, oc, .inl nw)), (kv, .inl (cyI, oc, .inl mk))]) [1, 2, 3] [0, 4, 5, 6, 7, 8, 9, 10, 11, 12, 13] [0, 11, 12, 13, 1, 2, 3, 4, 5, 6, 7, 8, 9, 10] (va_runV (As := [.int lit]) (rest := []) ⟨hx, hb, hml, hown, hts⟩ (c_X2_has lch D cyI cyJ _ hn n1 n2 cap lf of l.length (nGates l) 400 lit (by first | assumption | omega)) (cwV 1 hts gX3_twinOf_X2_has rfl rfl rfl (by decide +kernel) ⟨Nat.le_of_ble_eq_true rfl, Nat.le_of_ble_eq_true rfl⟩) (x_preV hK hNN (hP.sub (ws' := [(hn, .inr (2, [.ref n1, .ref n2, .int (nI l.length), .int (nI (nGates l)), .int (nI 400)])), (n1, .inl (cyI, cap, .inl lf)), (n2, .inl (cyI, cap, .inl of))]) [1, 2, 3] rfl) (hD.sub (ws' := [(hn, .inr (2, [.ref n1, .ref n2, .int (nI l.length), .int (nI (nGates l)), .int (nI 400)])), (n1, .inl (cyI, cap, .inl lf)), (n2, .inl (cyI, cap, .inl of))]) [1, 2, 3] (by decide) rfl) rfl rfl (ci := 2) (q0 := 0) rfl rfl rfl) rfl rfl hl.1 rfl (lv_room (Nat.le_of_ble_eq_true rfl)) dX3_twinOf_12 ⟨Nat.le_of_ble_eq_true rfl, Nat.le_of_ble_eq_true rfl⟩) rfl hP hD hS hA rfl rfl (by decide) (by decide) (fun _ => rfl) (by decide) (fun r12 u12 H locs hw12 hP hD hS hz12 => ?_)
    have hP : va_P D vwCl [(y, .inr (3, [.ref hn, .ref ht, .int (bI (st = true)), .ref iv, .int (nI ic), .ref bv, .ref tv, .ref vv, .ref uv, .ref ov, .ref kv])), (hn, .inr (2, [.ref n1, .ref n2, .int (nI l.length), .int (nI (nGates l)), .int (nI 400)])), (n1, .inl (cyI, cap, .inl lf)), (n2, .inl (cyI, cap, .inl of)), (ht, .inr (2, [.ref t1, .ref t2, .int (nI tnc), .int (nI tgt), .int (nI 1500)])), (t1, .inl (cyI, tcap, .inl tlf)), (t2, .inl (cyI, tcap, .inl tof)), (iv, .inl (cyI, 64, .inl nf)), (bv, .inl (cyI, 64, .inl bb)), (tv, .inl (cyI, 64, .inl tt)), (vv, .inl (cyI, vc, .inl vl)), (uv, .inl (cyI, vc, .inl tl)), (ov, .inl (cyI, oc, .inl nw)), (kv, .inl (cyI, oc, .inl mk))] H := hP
    have hD : va_D A [(y, .inr (3, [.ref hn, .ref ht, .int (bI (st = true)), .ref iv, .int (nI ic), .ref bv, .ref tv, .ref vv, .ref uv, .ref ov, .ref kv])), (hn, .inr (2, [.ref n1, .ref n2, .int (nI l.length), .int (nI (nGates l)), .int (nI 400)])), (n1, .inl (cyI, cap, .inl lf)), (n2, .inl (cyI, cap, .inl of)), (ht, .inr (2, [.ref t1, .ref t2, .int (nI tnc), .int (nI tgt), .int (nI 1500)])), (t1, .inl (cyI, tcap, .inl tlf)), (t2, .inl (cyI, tcap, .inl tof)), (iv, .inl (cyI, 64, .inl nf)), (bv, .inl (cyI, 64, .inl bb)), (tv, .inl (cyI, 64, .inl tt)), (vv, .inl (cyI, vc, .inl vl)), (uv, .inl (cyI, vc, .inl tl)), (ov, .inl (cyI, oc, .inl nw)), (kv, .inl (cyI, oc, .inl mk))] := hD
    have hw12 : r12 = bI (0 ≤ lit ∧ lit < nI (2 * l.length)) := hw12
    subst hw12
    refine W.widen (k := 0) (n := 0) (Nat.le_refl _) (Nat.le_refl _) ?_
    refine lv_if_ne (tgt := 22) hx hb dX3_twinOf_15 (by decide) (fun c15 => ?_) (fun c15 => ?_)
    · have c15 := Decidable.not_not.mp (mt bI_0.mpr c15)
      obtain ⟨k, hk, rfl, ek, -⟩ := (dO_cases hN5 lit).resolve_left (fun z => z.1 c15)
      have hk2 := hTw (k / 2) (by omega)
      have hk3 := hT2.2.2.2 (k / 2) (by omega) (Or.inl (by omega))
      refine lv_iload_n hx hb dX3_twinOf_22 rfl (lv_at hl 2 rfl) ?_
      refine lv_if_eq (tgt := 37) hx hb dX3_twinOf_23 (by decide) (fun c23 => ?_) (fun c23 => ?_)
      · refine lv_aload_n hx hb dX3_twinOf_37 rfl (lv_at hl 0 rfl) ?_
        refine va_get (D := D) (ci := 3) (v := .ref vv) (C := RX3) (T := TX3) (N := 11) hx hb hts hiX3 hown hK hP 0 rfl rfl 7 (by decide) wf31 (fun _ h9 => h9) rfl dX3_twinOf_38 ?_
        refine lv_iload_n hx hb dX3_twinOf_41 rfl (lv_at hl 1 rfl) ?_
        refine x_calli (wc := [(vv, .inl (cyI, vc, .inl vl))]) (wr := [(y, .inr (3, [.ref hn, .ref ht, .int (bI (st = true)), .ref iv, .int (nI ic), .ref bv, .ref tv, .ref vv, .ref uv, .ref ov, .ref kv])), (hn, .inr (2, [.ref n1, .ref n2, .int (nI l.length), .int (nI (nGates l)), .int (nI 400)])), (n1, .inl (cyI, cap, .inl lf)), (n2, .inl (cyI, cap, .inl of)), (ht, .inr (2, [.ref t1, .ref t2, .int (nI tnc), .int (nI tgt), .int (nI 1500)])), (t1, .inl (cyI, tcap, .inl tlf)), (t2, .inl (cyI, tcap, .inl tof)), (iv, .inl (cyI, 64, .inl nf)), (bv, .inl (cyI, 64, .inl bb)), (tv, .inl (cyI, 64, .inl tt)), (uv, .inl (cyI, vc, .inl tl)), (ov, .inl (cyI, oc, .inl nw)), (kv, .inl (cyI, oc, .inl mk))]) (w2 := fun (u : Unit) => [(y, .inr (3, [.ref hn, .ref ht, .int (bI (st = true)), .ref iv, .int (nI ic), .ref bv, .ref tv, .ref vv, .ref uv, .ref ov, .ref kv])), (hn, .inr (2, [.ref n1, .ref n2, .int (nI l.length), .int (nI (nGates l)), .int (nI 400)])), (n1, .inl (cyI, cap, .inl lf)), (n2, .inl (cyI, cap, .inl of)), (ht, .inr (2, [.ref t1, .ref t2, .int (nI tnc), .int (nI tgt), .int (nI 1500)])), (t1, .inl (cyI, tcap, .inl tlf)), (t2, .inl (cyI, tcap, .inl tof)), (iv, .inl (cyI, 64, .inl nf)), (bv, .inl (cyI, 64, .inl bb)), (tv, .inl (cyI, 64, .inl tt)), (vv, .inl (cyI, vc, .inl vl)), (uv, .inl (cyI, vc, .inl tl)), (ov, .inl (cyI, oc, .inl nw)), (kv, .inl (cyI, oc, .inl mk))]) [10] [0, 1, 2, 3, 4, 5, 6, 7, 8, 9, 11, 12, 13] [0, 1, 2, 3, 4, 5, 6, 7, 8, 9, 13, 10, 11, 12] (va_runS (As := [.ref vv, .int (nI k)]) (rest := []) ⟨hx, hb, hml, hown, hts⟩ (c_X3_with lch D cyI cyJ _ vv vc vl k S.2.1 (by first | assumption | omega) (by first | assumption | omega) hk2.1 (by omega)) (va_cwS 2 hts gX3_twinOf_X3_with rfl rfl rfl (by decide +kernel) ⟨Nat.le_of_ble_eq_true rfl, Nat.le_of_ble_eq_true rfl⟩) (x_pre hK hNN (hP.sub (ws' := [(vv, .inl (cyI, vc, .inl vl))]) [10] rfl) (hD.sub (ws' := [(vv, .inl (cyI, vc, .inl vl))]) [10] (by decide) rfl) rfl rfl) rfl rfl hl.1 rfl (lv_room (Nat.le_of_ble_eq_true rfl)) dX3_twinOf_42 ⟨Nat.le_of_ble_eq_true rfl, Nat.le_of_ble_eq_true rfl⟩) rfl hP hD hS hA rfl rfl (by decide) (by decide) (fun _ => rfl) (by decide) (fun r42 u42 H locs hw42 hP hD hS hz42 => ?_)
        have hP : va_P D vwCl [(y, .inr (3, [.ref hn, .ref ht, .int (bI (st = true)), .ref iv, .int (nI ic), .ref bv, .ref tv, .ref vv, .ref uv, .ref ov, .ref kv])), (hn, .inr (2, [.ref n1, .ref n2, .int (nI l.length), .int (nI (nGates l)), .int (nI 400)])), (n1, .inl (cyI, cap, .inl lf)), (n2, .inl (cyI, cap, .inl of)), (ht, .inr (2, [.ref t1, .ref t2, .int (nI tnc), .int (nI tgt), .int (nI 1500)])), (t1, .inl (cyI, tcap, .inl tlf)), (t2, .inl (cyI, tcap, .inl tof)), (iv, .inl (cyI, 64, .inl nf)), (bv, .inl (cyI, 64, .inl bb)), (tv, .inl (cyI, 64, .inl tt)), (vv, .inl (cyI, vc, .inl vl)), (uv, .inl (cyI, vc, .inl tl)), (ov, .inl (cyI, oc, .inl nw)), (kv, .inl (cyI, oc, .inl mk))] H := hP
        have hD : va_D A [(y, .inr (3, [.ref hn, .ref ht, .int (bI (st = true)), .ref iv, .int (nI ic), .ref bv, .ref tv, .ref vv, .ref uv, .ref ov, .ref kv])), (hn, .inr (2, [.ref n1, .ref n2, .int (nI l.length), .int (nI (nGates l)), .int (nI 400)])), (n1, .inl (cyI, cap, .inl lf)), (n2, .inl (cyI, cap, .inl of)), (ht, .inr (2, [.ref t1, .ref t2, .int (nI tnc), .int (nI tgt), .int (nI 1500)])), (t1, .inl (cyI, tcap, .inl tlf)), (t2, .inl (cyI, tcap, .inl tof)), (iv, .inl (cyI, 64, .inl nf)), (bv, .inl (cyI, 64, .inl bb)), (tv, .inl (cyI, 64, .inl tt)), (vv, .inl (cyI, vc, .inl vl)), (uv, .inl (cyI, vc, .inl tl)), (ov, .inl (cyI, oc, .inl nw)), (kv, .inl (cyI, oc, .inl mk))] := hD
        have hw42 : r42 = nI (litN S.2.1 k) := hw42
        subst hw42
        refine W.widen (k := 0) (n := 0) (Nat.le_refl _) (Nat.le_refl _) ?_
        refine x_top (show nI (litN S.2.1 k) = sTwinOf l inp ic st (nI k) q from (sTwinOf_0 hst ek hS1 c23).symm) ?_
        exact x_iret hQ hAe hx hb hr hlocks (rfl) hS hK (Nat.zero_le _) (Nat.zero_le _) dX3_twinOf_45 () hP hD (rfl)
      · refine lv_aload_n hx hb dX3_twinOf_26 rfl (lv_at hl 0 rfl) ?_
        refine va_get (D := D) (ci := 3) (v := .ref uv) (C := RX3) (T := TX3) (N := 11) hx hb hts hiX3 hown hK hP 0 rfl rfl 8 (by decide) wf34 (fun _ h9 => h9) rfl dX3_twinOf_27 ?_
        refine lv_iload_n hx hb dX3_twinOf_30 rfl (lv_at hl 1 rfl) ?_
        refine lv_iconst (v := nI 2) hx hb dX3_twinOf_31 (by decide) ?_
        refine lv_idiv hx hb dX3_twinOf_32 (by decide) ?_
        refine x_top (pk_div (by omega) (by omega) (by omega)) ?_
        refine x_iald hx hb hK hP 11 0 rfl rfl (by omega) (by omega) dX3_twinOf_33 ?_
        refine x_top (show tl (k / 2) = sTwinOf l inp ic st (nI k) q from by rw [sTwinOf_1 hst ek hS1 c23]; exact hk2.2) ?_
        refine lv_goto (tgt := 45) hx hb dX3_twinOf_34 (by decide) ?_
        exact x_iret hQ hAe hx hb hr hlocks (rfl) hS hK (Nat.zero_le _) (Nat.zero_le _) dX3_twinOf_45 () hP hD (rfl)
    · have c15 := bI_0.mp c15
      refine lv_iconst (v := (-1)) hx hb dX3_twinOf_18 (by decide) ?_
      refine x_top (show (-1) = sTwinOf l inp ic st lit q from (sTwinOf_n (dO_no c15)).symm) ?_
      refine lv_goto (tgt := 45) hx hb dX3_twinOf_19 (by decide) ?_
      exact x_iret hQ hAe hx hb hr hlocks (rfl) hS hK (Nat.zero_le _) (Nat.zero_le _) dX3_twinOf_45 () hP hD (rfl)
set_option maxHeartbeats 4000000 in
set_option maxRecDepth 100000 in
theorem c_X3_set (lch : Launch) (D : va_G) (cyI cyJ : ClassId) (sz : Nat) (y : Nat) (hn : Nat) (n1 : Nat) (n2 : Nat) (ht : Nat) (t1 : Nat) (t2 : Nat) (iv : Nat) (bv : Nat) (tv : Nat) (vv : Nat) (uv : Nat) (ov : Nat) (kv : Nat) (cap : Nat) (lf : Nat → Int32) (of : Nat → Int32) (tcap : Nat) (tlf : Nat → Int32) (tof : Nat → Int32) (tnc : Nat) (tgt : Nat) (nf : Nat → Int32) (ic : Nat) (bb : Nat → Int32) (tt : Nat → Int32) (vc : Nat) (vl : Nat → Int32) (tl : Nat → Int32) (oc : Nat) (nw : Nat → Int32) (mk : Nat → Int32) (l : NT) (inp : Nat → Nat) (st : Bool) (i : Int32) (q : Int32) (bit : Int32) (hMI : MI l inp ic st cap lf of tcap tlf tof tnc tgt nf vc vl tl oc) : Met lch yX3_set wsX3_set ({ frames := 0, cells := 320, slots := 10240, locals := 0 } : Room) (va_Pc [.ref y, .int i, .int q, .int bit] (xA D (xTy cyI cyJ) sz [(y, .inr (3, [.ref hn, .ref ht, .int (bI (st = true)), .ref iv, .int (nI ic), .ref bv, .ref tv, .ref vv, .ref uv, .ref ov, .ref kv])), (hn, .inr (2, [.ref n1, .ref n2, .int (nI l.length), .int (nI (nGates l)), .int (nI 400)])), (n1, .inl (cyI, cap, .inl lf)), (n2, .inl (cyI, cap, .inl of)), (ht, .inr (2, [.ref t1, .ref t2, .int (nI tnc), .int (nI tgt), .int (nI 1500)])), (t1, .inl (cyI, tcap, .inl tlf)), (t2, .inl (cyI, tcap, .inl tof)), (iv, .inl (cyI, 64, .inl nf)), (bv, .inl (cyI, 64, .inl bb)), (tv, .inl (cyI, 64, .inl tt)), (vv, .inl (cyI, vc, .inl vl)), (uv, .inl (cyI, vc, .inl tl)), (ov, .inl (cyI, oc, .inl nw)), (kv, .inl (cyI, oc, .inl mk))])) (va_Qi (fun (r : Int32) (u : Unit) => r = sSetR ic bb tt i q) (fun (u : Unit) t => xB D (xTy cyI cyJ) sz [(y, .inr (3, [.ref hn, .ref ht, .int (bI (st = true)), .ref iv, .int (nI ic), .ref bv, .ref tv, .ref vv, .ref uv, .ref ov, .ref kv])), (hn, .inr (2, [.ref n1, .ref n2, .int (nI l.length), .int (nI (nGates l)), .int (nI 400)])), (n1, .inl (cyI, cap, .inl lf)), (n2, .inl (cyI, cap, .inl of)), (ht, .inr (2, [.ref t1, .ref t2, .int (nI tnc), .int (nI tgt), .int (nI 1500)])), (t1, .inl (cyI, tcap, .inl tlf)), (t2, .inl (cyI, tcap, .inl tof)), (iv, .inl (cyI, 64, .inl nf)), (bv, .inl (cyI, 64, .inl bb)), (tv, .inl (cyI, 64, .inl tt)), (vv, .inl (cyI, vc, .inl vl)), (uv, .inl (cyI, vc, .inl tl)), (ov, .inl (cyI, oc, .inl nw)), (kv, .inl (cyI, oc, .inl mk))] [(y, .inr (3, [.ref hn, .ref ht, .int (bI (st = true)), .ref iv, .int (nI ic), .ref bv, .ref tv, .ref vv, .ref uv, .ref ov, .ref kv])), (hn, .inr (2, [.ref n1, .ref n2, .int (nI l.length), .int (nI (nGates l)), .int (nI 400)])), (n1, .inl (cyI, cap, .inl lf)), (n2, .inl (cyI, cap, .inl of)), (ht, .inr (2, [.ref t1, .ref t2, .int (nI tnc), .int (nI tgt), .int (nI 1500)])), (t1, .inl (cyI, tcap, .inl tlf)), (t2, .inl (cyI, tcap, .inl tof)), (iv, .inl (cyI, 64, .inl nf)), (bv, .inl (cyI, 64, .inl (sSetB ic bb i q bit))), (tv, .inl (cyI, 64, .inl (sSetT ic tt i q bit))), (vv, .inl (cyI, vc, .inl vl)), (uv, .inl (cyI, vc, .inl tl)), (ov, .inl (cyI, oc, .inl nw)), (kv, .inl (cyI, oc, .inl mk))] t) (va_A [(y, .inr (3, [.ref hn, .ref ht, .int (bI (st = true)), .ref iv, .int (nI ic), .ref bv, .ref tv, .ref vv, .ref uv, .ref ov, .ref kv])), (hn, .inr (2, [.ref n1, .ref n2, .int (nI l.length), .int (nI (nGates l)), .int (nI 400)])), (n1, .inl (cyI, cap, .inl lf)), (n2, .inl (cyI, cap, .inl of)), (ht, .inr (2, [.ref t1, .ref t2, .int (nI tnc), .int (nI tgt), .int (nI 1500)])), (t1, .inl (cyI, tcap, .inl tlf)), (t2, .inl (cyI, tcap, .inl tof)), (iv, .inl (cyI, 64, .inl nf)), (bv, .inl (cyI, 64, .inl bb)), (tv, .inl (cyI, 64, .inl tt)), (vv, .inl (cyI, vc, .inl vl)), (uv, .inl (cyI, vc, .inl tl)), (ov, .inl (cyI, oc, .inl nw)), (kv, .inl (cyI, oc, .inl mk))] sz)) 320 10240 (va_A [(y, .inr (3, [.ref hn, .ref ht, .int (bI (st = true)), .ref iv, .int (nI ic), .ref bv, .ref tv, .ref vv, .ref uv, .ref ov, .ref kv])), (hn, .inr (2, [.ref n1, .ref n2, .int (nI l.length), .int (nI (nGates l)), .int (nI 400)])), (n1, .inl (cyI, cap, .inl lf)), (n2, .inl (cyI, cap, .inl of)), (ht, .inr (2, [.ref t1, .ref t2, .int (nI tnc), .int (nI tgt), .int (nI 1500)])), (t1, .inl (cyI, tcap, .inl tlf)), (t2, .inl (cyI, tcap, .inl tof)), (iv, .inl (cyI, 64, .inl nf)), (bv, .inl (cyI, 64, .inl bb)), (tv, .inl (cyI, 64, .inl tt)), (vv, .inl (cyI, vc, .inl vl)), (uv, .inl (cyI, vc, .inl tl)), (ov, .inl (cyI, oc, .inl nw)), (kv, .inl (cyI, oc, .inl mk))] sz) := by
  refine x_met RX3 (by decide) rfl rfl (Nat.le_of_ble_eq_true rfl) ?_
  intro p e s m below meth c A Q hAe hQ hx hb hr hlocks hml hnm hts hown hNN hK hsz hP hD hS hA ls hl
  have wf43 := hts (.fieldLink RX3 43 "NetTwinModel" "inputCount" "I") (by decide +kernel)
  have hiX3 : ∀ w ∈ u_ws RX3 TX3 11, w ∈ wsX3_set := by decide +kernel
  have wf25 := hts (.fieldLink RX3 25 "NetTwinModel" "bits" "[I") (by decide +kernel)
  have wf28 := hts (.fieldLink RX3 28 "NetTwinModel" "taints" "[I") (by decide +kernel)
  have hP : va_P D vwCl [(y, .inr (3, [.ref hn, .ref ht, .int (bI (st = true)), .ref iv, .int (nI ic), .ref bv, .ref tv, .ref vv, .ref uv, .ref ov, .ref kv])), (hn, .inr (2, [.ref n1, .ref n2, .int (nI l.length), .int (nI (nGates l)), .int (nI 400)])), (n1, .inl (cyI, cap, .inl lf)), (n2, .inl (cyI, cap, .inl of)), (ht, .inr (2, [.ref t1, .ref t2, .int (nI tnc), .int (nI tgt), .int (nI 1500)])), (t1, .inl (cyI, tcap, .inl tlf)), (t2, .inl (cyI, tcap, .inl tof)), (iv, .inl (cyI, 64, .inl nf)), (bv, .inl (cyI, 64, .inl bb)), (tv, .inl (cyI, 64, .inl tt)), (vv, .inl (cyI, vc, .inl vl)), (uv, .inl (cyI, vc, .inl tl)), (ov, .inl (cyI, oc, .inl nw)), (kv, .inl (cyI, oc, .inl mk))] s.heap := hP
  have hD : va_D A [(y, .inr (3, [.ref hn, .ref ht, .int (bI (st = true)), .ref iv, .int (nI ic), .ref bv, .ref tv, .ref vv, .ref uv, .ref ov, .ref kv])), (hn, .inr (2, [.ref n1, .ref n2, .int (nI l.length), .int (nI (nGates l)), .int (nI 400)])), (n1, .inl (cyI, cap, .inl lf)), (n2, .inl (cyI, cap, .inl of)), (ht, .inr (2, [.ref t1, .ref t2, .int (nI tnc), .int (nI tgt), .int (nI 1500)])), (t1, .inl (cyI, tcap, .inl tlf)), (t2, .inl (cyI, tcap, .inl tof)), (iv, .inl (cyI, 64, .inl nf)), (bv, .inl (cyI, 64, .inl bb)), (tv, .inl (cyI, 64, .inl tt)), (vv, .inl (cyI, vc, .inl vl)), (uv, .inl (cyI, vc, .inl tl)), (ov, .inl (cyI, oc, .inl nw)), (kv, .inl (cyI, oc, .inl mk))] := hD
  have hl : lv_has ls 6 [(0, .ref y), (1, .int i), (2, .int q), (3, .int bit)] := hl
  have hM2 := hMI
  obtain ⟨hNI, hrp, hcl, hoc1, hoc2, hoc3, hvc, hoc4, hin, -⟩ := hM2
  have hN2 := hNI
  obtain ⟨hok, hg, hgM, hic, hi1, hi2, hi3⟩ := hN2
  have hN5 : l.length < 100000 := by omega
  have hc16 := okc_16 hoc1
  have ht16 := okc_16 hoc2
  have hv16 := okc_16 hoc3
  have ho16 := okc_16 hoc4
  refine lv_iload_n hx hb dX3_set_0 rfl (lv_at hl 1 rfl) ?_
  refine lv_if_lt (tgt := 12) hx hb dX3_set_1 (by decide) (fun c1 => ?_) (fun c1 => ?_)
  · refine lv_iconst (v := (-1)) hx hb dX3_set_12 (by decide) ?_
    have hno : ¬ (0 ≤ i ∧ i < nI ic) := fun z => by first | exact absurd c1 (Int32.not_lt.mpr z.1) | exact absurd z.2 c9
    have e1 : sSetB ic bb i q bit = bb := by unfold sSetB sRow; rw [if_neg hno]; split <;> rfl
    have e2 : sSetT ic tt i q bit = tt := by unfold sSetT sRow; rw [if_neg hno]; split <;> rfl
    have e3 : sSetR ic bb tt i q = -1 := by unfold sSetR; rw [if_neg hno]
    rw [e1, e2, e3] at hQ
    exact x_iret hQ hAe hx hb hr hlocks (rfl) hS hK (Nat.zero_le _) (Nat.zero_le _) dX3_set_13 () hP hD (rfl)
  · refine lv_iload_n hx hb dX3_set_4 rfl (lv_at hl 1 rfl) ?_
    refine lv_aload_n hx hb dX3_set_5 rfl (lv_at hl 0 rfl) ?_
    refine va_get (D := D) (ci := 3) (v := .int (nI ic)) (C := RX3) (T := TX3) (N := 11) hx hb hts hiX3 hown hK hP 0 rfl rfl 4 (by decide) wf43 (fun _ h9 => h9) rfl dX3_set_6 ?_
    refine lv_icmp_lt (tgt := 14) hx hb dX3_set_9 (by decide) (fun c9 => ?_) (fun c9 => ?_)
    · obtain ⟨k, hk31, rfl⟩ := nI_of c1
      have hkl := (nI_ltI hk31 (by omega)).mp c9
      have hyes : 0 ≤ nI k ∧ nI k < nI ic := ⟨nI_pos' hk31, c9⟩
      have hkc : (nI k).toNatClampNeg = k := nI_clamp hk31
      refine lv_iload_n hx hb dX3_set_14 rfl (lv_at hl 2 rfl) ?_
      refine lv_if_eq (tgt := 25) hx hb dX3_set_15 (by decide) (fun c15 => ?_) (fun c15 => ?_)
      · refine lv_aload_n hx hb dX3_set_25 rfl (lv_at hl 0 rfl) ?_
        refine va_get (D := D) (ci := 3) (v := .ref bv) (C := RX3) (T := TX3) (N := 11) hx hb hts hiX3 hown hK hP 0 rfl rfl 5 (by decide) wf25 (fun _ h9 => h9) rfl dX3_set_26 ?_
        refine lv_astore (lv' := [(4, .ref bv), (0, .ref y), (1, .int (nI k)), (2, .int q), (3, .int bit)]) hx hb dX3_set_29 hl (by decide) rfl (fun ls hl => ?_)
        refine lv_aload hx hb dX3_set_31 (lv_at hl 0 rfl) ?_
        refine lv_iload_n hx hb dX3_set_33 rfl (lv_at hl 2 rfl) ?_
        refine x_iald hx hb hK hP 8 0 rfl rfl (by omega) (by omega) dX3_set_34 ?_
        refine lv_istore (lv' := [(5, .int (bb k)), (4, .ref bv), (0, .ref y), (1, .int (nI k)), (2, .int q), (3, .int bit)]) hx hb dX3_set_35 hl (by decide) rfl (fun ls hl => ?_)
        refine lv_aload hx hb dX3_set_37 (lv_at hl 1 rfl) ?_
        refine lv_iload_n hx hb dX3_set_39 rfl (lv_at hl 3 rfl) ?_
        refine lv_iload_n hx hb dX3_set_40 rfl (lv_at hl 5 rfl) ?_
        refine lv_if_ne (tgt := 48) hx hb dX3_set_41 (by decide) (fun c41 => ?_) (fun c41 => ?_)
        · refine lv_iconst (v := nI 1) hx hb dX3_set_48 (by decide) ?_
          refine x_iast hx hb hK hP hD hS 8 0 rfl rfl (by omega) (by omega) dX3_set_49 (fun H locs hP hD hS => ?_)
          have hP : va_P D vwCl [(y, .inr (3, [.ref hn, .ref ht, .int (bI (st = true)), .ref iv, .int (nI ic), .ref bv, .ref tv, .ref vv, .ref uv, .ref ov, .ref kv])), (hn, .inr (2, [.ref n1, .ref n2, .int (nI l.length), .int (nI (nGates l)), .int (nI 400)])), (n1, .inl (cyI, cap, .inl lf)), (n2, .inl (cyI, cap, .inl of)), (ht, .inr (2, [.ref t1, .ref t2, .int (nI tnc), .int (nI tgt), .int (nI 1500)])), (t1, .inl (cyI, tcap, .inl tlf)), (t2, .inl (cyI, tcap, .inl tof)), (iv, .inl (cyI, 64, .inl nf)), (bv, .inl (cyI, 64, .inl (upd bb k (nI 1)))), (tv, .inl (cyI, 64, .inl tt)), (vv, .inl (cyI, vc, .inl vl)), (uv, .inl (cyI, vc, .inl tl)), (ov, .inl (cyI, oc, .inl nw)), (kv, .inl (cyI, oc, .inl mk))] H := hP
          have hD : va_D A [(y, .inr (3, [.ref hn, .ref ht, .int (bI (st = true)), .ref iv, .int (nI ic), .ref bv, .ref tv, .ref vv, .ref uv, .ref ov, .ref kv])), (hn, .inr (2, [.ref n1, .ref n2, .int (nI l.length), .int (nI (nGates l)), .int (nI 400)])), (n1, .inl (cyI, cap, .inl lf)), (n2, .inl (cyI, cap, .inl of)), (ht, .inr (2, [.ref t1, .ref t2, .int (nI tnc), .int (nI tgt), .int (nI 1500)])), (t1, .inl (cyI, tcap, .inl tlf)), (t2, .inl (cyI, tcap, .inl tof)), (iv, .inl (cyI, 64, .inl nf)), (bv, .inl (cyI, 64, .inl (upd bb k (nI 1)))), (tv, .inl (cyI, 64, .inl tt)), (vv, .inl (cyI, vc, .inl vl)), (uv, .inl (cyI, vc, .inl tl)), (ov, .inl (cyI, oc, .inl nw)), (kv, .inl (cyI, oc, .inl mk))] := hD
          refine lv_iload hx hb dX3_set_50 (lv_at hl 0 rfl) ?_
          have e1 : sSetB ic bb (nI k) q bit = upd bb k (nI 1) := by unfold sSetB sRow; rw [if_pos c15, if_pos hyes, hkc, if_neg c41]
          have e2 : sSetT ic tt (nI k) q bit = tt := by unfold sSetT; rw [if_pos c15]
          have e3 : sSetR ic bb tt (nI k) q = bb k := by unfold sSetR; rw [if_pos hyes, if_pos c15, hkc]
          rw [e1, e2, e3] at hQ
          exact x_iret hQ hAe hx hb hr hlocks (rfl) hS hK (Nat.zero_le _) (Nat.zero_le _) dX3_set_52 () hP hD (rfl)
        · refine lv_iconst (v := nI 0) hx hb dX3_set_44 (by decide) ?_
          refine lv_goto (tgt := 49) hx hb dX3_set_45 (by decide) ?_
          refine x_iast hx hb hK hP hD hS 8 0 rfl rfl (by omega) (by omega) dX3_set_49 (fun H locs hP hD hS => ?_)
          have hP : va_P D vwCl [(y, .inr (3, [.ref hn, .ref ht, .int (bI (st = true)), .ref iv, .int (nI ic), .ref bv, .ref tv, .ref vv, .ref uv, .ref ov, .ref kv])), (hn, .inr (2, [.ref n1, .ref n2, .int (nI l.length), .int (nI (nGates l)), .int (nI 400)])), (n1, .inl (cyI, cap, .inl lf)), (n2, .inl (cyI, cap, .inl of)), (ht, .inr (2, [.ref t1, .ref t2, .int (nI tnc), .int (nI tgt), .int (nI 1500)])), (t1, .inl (cyI, tcap, .inl tlf)), (t2, .inl (cyI, tcap, .inl tof)), (iv, .inl (cyI, 64, .inl nf)), (bv, .inl (cyI, 64, .inl (upd bb k (nI 0)))), (tv, .inl (cyI, 64, .inl tt)), (vv, .inl (cyI, vc, .inl vl)), (uv, .inl (cyI, vc, .inl tl)), (ov, .inl (cyI, oc, .inl nw)), (kv, .inl (cyI, oc, .inl mk))] H := hP
          have hD : va_D A [(y, .inr (3, [.ref hn, .ref ht, .int (bI (st = true)), .ref iv, .int (nI ic), .ref bv, .ref tv, .ref vv, .ref uv, .ref ov, .ref kv])), (hn, .inr (2, [.ref n1, .ref n2, .int (nI l.length), .int (nI (nGates l)), .int (nI 400)])), (n1, .inl (cyI, cap, .inl lf)), (n2, .inl (cyI, cap, .inl of)), (ht, .inr (2, [.ref t1, .ref t2, .int (nI tnc), .int (nI tgt), .int (nI 1500)])), (t1, .inl (cyI, tcap, .inl tlf)), (t2, .inl (cyI, tcap, .inl tof)), (iv, .inl (cyI, 64, .inl nf)), (bv, .inl (cyI, 64, .inl (upd bb k (nI 0)))), (tv, .inl (cyI, 64, .inl tt)), (vv, .inl (cyI, vc, .inl vl)), (uv, .inl (cyI, vc, .inl tl)), (ov, .inl (cyI, oc, .inl nw)), (kv, .inl (cyI, oc, .inl mk))] := hD
          refine lv_iload hx hb dX3_set_50 (lv_at hl 0 rfl) ?_
          have e1 : sSetB ic bb (nI k) q bit = upd bb k (nI 0) := by unfold sSetB sRow; rw [if_pos c15, if_pos hyes, hkc, if_pos c41]
          have e2 : sSetT ic tt (nI k) q bit = tt := by unfold sSetT; rw [if_pos c15]
          have e3 : sSetR ic bb tt (nI k) q = bb k := by unfold sSetR; rw [if_pos hyes, if_pos c15, hkc]
          rw [e1, e2, e3] at hQ
          exact x_iret hQ hAe hx hb hr hlocks (rfl) hS hK (Nat.zero_le _) (Nat.zero_le _) dX3_set_52 () hP hD (rfl)
      · refine lv_aload_n hx hb dX3_set_18 rfl (lv_at hl 0 rfl) ?_
        refine va_get (D := D) (ci := 3) (v := .ref tv) (C := RX3) (T := TX3) (N := 11) hx hb hts hiX3 hown hK hP 0 rfl rfl 6 (by decide) wf28 (fun _ h9 => h9) rfl dX3_set_19 ?_
        refine lv_goto (tgt := 29) hx hb dX3_set_22 (by decide) ?_
        refine lv_astore (lv' := [(4, .ref tv), (0, .ref y), (1, .int (nI k)), (2, .int q), (3, .int bit)]) hx hb dX3_set_29 hl (by decide) rfl (fun ls hl => ?_)
        refine lv_aload hx hb dX3_set_31 (lv_at hl 0 rfl) ?_
        refine lv_iload_n hx hb dX3_set_33 rfl (lv_at hl 2 rfl) ?_
        refine x_iald hx hb hK hP 9 0 rfl rfl (by omega) (by omega) dX3_set_34 ?_
        refine lv_istore (lv' := [(5, .int (tt k)), (4, .ref tv), (0, .ref y), (1, .int (nI k)), (2, .int q), (3, .int bit)]) hx hb dX3_set_35 hl (by decide) rfl (fun ls hl => ?_)
        refine lv_aload hx hb dX3_set_37 (lv_at hl 1 rfl) ?_
        refine lv_iload_n hx hb dX3_set_39 rfl (lv_at hl 3 rfl) ?_
        refine lv_iload_n hx hb dX3_set_40 rfl (lv_at hl 5 rfl) ?_
        refine lv_if_ne (tgt := 48) hx hb dX3_set_41 (by decide) (fun c41 => ?_) (fun c41 => ?_)
        · refine lv_iconst (v := nI 1) hx hb dX3_set_48 (by decide) ?_
          refine x_iast hx hb hK hP hD hS 9 0 rfl rfl (by omega) (by omega) dX3_set_49 (fun H locs hP hD hS => ?_)
          have hP : va_P D vwCl [(y, .inr (3, [.ref hn, .ref ht, .int (bI (st = true)), .ref iv, .int (nI ic), .ref bv, .ref tv, .ref vv, .ref uv, .ref ov, .ref kv])), (hn, .inr (2, [.ref n1, .ref n2, .int (nI l.length), .int (nI (nGates l)), .int (nI 400)])), (n1, .inl (cyI, cap, .inl lf)), (n2, .inl (cyI, cap, .inl of)), (ht, .inr (2, [.ref t1, .ref t2, .int (nI tnc), .int (nI tgt), .int (nI 1500)])), (t1, .inl (cyI, tcap, .inl tlf)), (t2, .inl (cyI, tcap, .inl tof)), (iv, .inl (cyI, 64, .inl nf)), (bv, .inl (cyI, 64, .inl bb)), (tv, .inl (cyI, 64, .inl (upd tt k (nI 1)))), (vv, .inl (cyI, vc, .inl vl)), (uv, .inl (cyI, vc, .inl tl)), (ov, .inl (cyI, oc, .inl nw)), (kv, .inl (cyI, oc, .inl mk))] H := hP
          have hD : va_D A [(y, .inr (3, [.ref hn, .ref ht, .int (bI (st = true)), .ref iv, .int (nI ic), .ref bv, .ref tv, .ref vv, .ref uv, .ref ov, .ref kv])), (hn, .inr (2, [.ref n1, .ref n2, .int (nI l.length), .int (nI (nGates l)), .int (nI 400)])), (n1, .inl (cyI, cap, .inl lf)), (n2, .inl (cyI, cap, .inl of)), (ht, .inr (2, [.ref t1, .ref t2, .int (nI tnc), .int (nI tgt), .int (nI 1500)])), (t1, .inl (cyI, tcap, .inl tlf)), (t2, .inl (cyI, tcap, .inl tof)), (iv, .inl (cyI, 64, .inl nf)), (bv, .inl (cyI, 64, .inl bb)), (tv, .inl (cyI, 64, .inl (upd tt k (nI 1)))), (vv, .inl (cyI, vc, .inl vl)), (uv, .inl (cyI, vc, .inl tl)), (ov, .inl (cyI, oc, .inl nw)), (kv, .inl (cyI, oc, .inl mk))] := hD
          refine lv_iload hx hb dX3_set_50 (lv_at hl 0 rfl) ?_
          have e1 : sSetB ic bb (nI k) q bit = bb := by unfold sSetB; rw [if_neg c15]
          have e2 : sSetT ic tt (nI k) q bit = upd tt k (nI 1) := by unfold sSetT sRow; rw [if_neg c15, if_pos hyes, hkc, if_neg c41]
          have e3 : sSetR ic bb tt (nI k) q = tt k := by unfold sSetR; rw [if_pos hyes, if_neg c15, hkc]
          rw [e1, e2, e3] at hQ
          exact x_iret hQ hAe hx hb hr hlocks (rfl) hS hK (Nat.zero_le _) (Nat.zero_le _) dX3_set_52 () hP hD (rfl)
        · refine lv_iconst (v := nI 0) hx hb dX3_set_44 (by decide) ?_
          refine lv_goto (tgt := 49) hx hb dX3_set_45 (by decide) ?_
          refine x_iast hx hb hK hP hD hS 9 0 rfl rfl (by omega) (by omega) dX3_set_49 (fun H locs hP hD hS => ?_)
          have hP : va_P D vwCl [(y, .inr (3, [.ref hn, .ref ht, .int (bI (st = true)), .ref iv, .int (nI ic), .ref bv, .ref tv, .ref vv, .ref uv, .ref ov, .ref kv])), (hn, .inr (2, [.ref n1, .ref n2, .int (nI l.length), .int (nI (nGates l)), .int (nI 400)])), (n1, .inl (cyI, cap, .inl lf)), (n2, .inl (cyI, cap, .inl of)), (ht, .inr (2, [.ref t1, .ref t2, .int (nI tnc), .int (nI tgt), .int (nI 1500)])), (t1, .inl (cyI, tcap, .inl tlf)), (t2, .inl (cyI, tcap, .inl tof)), (iv, .inl (cyI, 64, .inl nf)), (bv, .inl (cyI, 64, .inl bb)), (tv, .inl (cyI, 64, .inl (upd tt k (nI 0)))), (vv, .inl (cyI, vc, .inl vl)), (uv, .inl (cyI, vc, .inl tl)), (ov, .inl (cyI, oc, .inl nw)), (kv, .inl (cyI, oc, .inl mk))] H := hP
          have hD : va_D A [(y, .inr (3, [.ref hn, .ref ht, .int (bI (st = true)), .ref iv, .int (nI ic), .ref bv, .ref tv, .ref vv, .ref uv, .ref ov, .ref kv])), (hn, .inr (2, [.ref n1, .ref n2, .int (nI l.length), .int (nI (nGates l)), .int (nI 400)])), (n1, .inl (cyI, cap, .inl lf)), (n2, .inl (cyI, cap, .inl of)), (ht, .inr (2, [.ref t1, .ref t2, .int (nI tnc), .int (nI tgt), .int (nI 1500)])), (t1, .inl (cyI, tcap, .inl tlf)), (t2, .inl (cyI, tcap, .inl tof)), (iv, .inl (cyI, 64, .inl nf)), (bv, .inl (cyI, 64, .inl bb)), (tv, .inl (cyI, 64, .inl (upd tt k (nI 0)))), (vv, .inl (cyI, vc, .inl vl)), (uv, .inl (cyI, vc, .inl tl)), (ov, .inl (cyI, oc, .inl nw)), (kv, .inl (cyI, oc, .inl mk))] := hD
          refine lv_iload hx hb dX3_set_50 (lv_at hl 0 rfl) ?_
          have e1 : sSetB ic bb (nI k) q bit = bb := by unfold sSetB; rw [if_neg c15]
          have e2 : sSetT ic tt (nI k) q bit = upd tt k (nI 0) := by unfold sSetT sRow; rw [if_neg c15, if_pos hyes, hkc, if_pos c41]
          have e3 : sSetR ic bb tt (nI k) q = tt k := by unfold sSetR; rw [if_pos hyes, if_neg c15, hkc]
          rw [e1, e2, e3] at hQ
          exact x_iret hQ hAe hx hb hr hlocks (rfl) hS hK (Nat.zero_le _) (Nat.zero_le _) dX3_set_52 () hP hD (rfl)
    · refine lv_iconst (v := (-1)) hx hb dX3_set_12 (by decide) ?_
      have hno : ¬ (0 ≤ i ∧ i < nI ic) := fun z => by first | exact absurd c1 (Int32.not_lt.mpr z.1) | exact absurd z.2 c9
      have e1 : sSetB ic bb i q bit = bb := by unfold sSetB sRow; rw [if_neg hno]; split <;> rfl
      have e2 : sSetT ic tt i q bit = tt := by unfold sSetT sRow; rw [if_neg hno]; split <;> rfl
      have e3 : sSetR ic bb tt i q = -1 := by unfold sSetR; rw [if_neg hno]
      rw [e1, e2, e3] at hQ
      exact x_iret hQ hAe hx hb hr hlocks (rfl) hS hK (Nat.zero_le _) (Nat.zero_le _) dX3_set_13 () hP hD (rfl)
set_option maxHeartbeats 4000000 in
set_option maxRecDepth 100000 in
theorem c_X3_init (lch : Launch) (D : va_G) (cyI cyJ : ClassId) (sz : Nat) (y : Nat)  : Met lch yX3_init wsX3_init ({ frames := 5, cells := 20, slots := 400, locals := 124 } : Room) (va_Pc [.ref y] (xA D (xTy cyI cyJ) sz [(y, .inr (3, [.null, .null, .int 0, .null, .int 0, .null, .null, .null, .null, .null, .null]))])) (va_Qv (fun (u : Nat × Nat × Nat × Nat × Nat × Nat × Nat × Nat × Nat × Nat × Nat × Nat × Nat × (Nat → Int32) × (Nat → Int32) × (Nat → Int32) × (Nat → Int32)) => u.2.2.2.2.2.2.2.2.2.2.2.2.2.1 0 = -1 ∧ u.2.2.2.2.2.2.2.2.2.2.2.2.2.2.1 0 = -1 ∧ u.2.2.2.2.2.2.2.2.2.2.2.2.2.2.2.1 0 = -1 ∧ u.2.2.2.2.2.2.2.2.2.2.2.2.2.2.2.2 0 = -1) (fun (u : Nat × Nat × Nat × Nat × Nat × Nat × Nat × Nat × Nat × Nat × Nat × Nat × Nat × (Nat → Int32) × (Nat → Int32) × (Nat → Int32) × (Nat → Int32)) t => xB D (xTy cyI cyJ) sz [(y, .inr (3, [.null, .null, .int 0, .null, .int 0, .null, .null, .null, .null, .null, .null]))] [(y, .inr (3, [.ref u.1, .ref u.2.2.2.1, .int 0, .ref u.2.2.2.2.2.2.1, .int 0, .ref u.2.2.2.2.2.2.2.1, .ref u.2.2.2.2.2.2.2.2.1, .ref u.2.2.2.2.2.2.2.2.2.1, .ref u.2.2.2.2.2.2.2.2.2.2.1, .ref u.2.2.2.2.2.2.2.2.2.2.2.1, .ref u.2.2.2.2.2.2.2.2.2.2.2.2.1])), (u.1, .inr (2, [.ref u.2.1, .ref u.2.2.1, .int (nI 1), .int (nI 0), .int (nI 400)])), (u.2.1, .inl (cyI, 16, .inl u.2.2.2.2.2.2.2.2.2.2.2.2.2.1)), (u.2.2.1, .inl (cyI, 16, .inl u.2.2.2.2.2.2.2.2.2.2.2.2.2.2.1)), (u.2.2.2.1, .inr (2, [.ref u.2.2.2.2.1, .ref u.2.2.2.2.2.1, .int (nI 1), .int (nI 0), .int (nI 1500)])), (u.2.2.2.2.1, .inl (cyI, 16, .inl u.2.2.2.2.2.2.2.2.2.2.2.2.2.2.2.1)), (u.2.2.2.2.2.1, .inl (cyI, 16, .inl u.2.2.2.2.2.2.2.2.2.2.2.2.2.2.2.2)), (u.2.2.2.2.2.2.1, .inl (cyI, 64, .inl (fun _ => 0))), (u.2.2.2.2.2.2.2.1, .inl (cyI, 64, .inl (fun _ => 0))), (u.2.2.2.2.2.2.2.2.1, .inl (cyI, 64, .inl (fun _ => 0))), (u.2.2.2.2.2.2.2.2.2.1, .inl (cyI, 16, .inl (fun _ => 0))), (u.2.2.2.2.2.2.2.2.2.2.1, .inl (cyI, 16, .inl (fun _ => 0))), (u.2.2.2.2.2.2.2.2.2.2.2.1, .inl (cyI, 16, .inl (fun _ => 0))), (u.2.2.2.2.2.2.2.2.2.2.2.2.1, .inl (cyI, 16, .inl (fun _ => 0)))] t) (va_A [(y, .inr (3, [.null, .null, .int 0, .null, .int 0, .null, .null, .null, .null, .null, .null]))] sz)) 20 400 (va_A [(y, .inr (3, [.null, .null, .int 0, .null, .int 0, .null, .null, .null, .null, .null, .null]))] sz) := by
  refine x_met RX3 (by decide) rfl rfl (Nat.le_of_ble_eq_true rfl) ?_
  intro p e s m below meth c A Q hAe hQ hx hb hr hlocks hml hnm hts hown hNN hK hsz hP hD hS hA ls hl
  have wo1 := hts (.methodLink RX3 1 objectInit) (by decide +kernel)
  have wo2 := hts (.instanceMethod objectInit) (by decide +kernel)
  have wo3 := hts (.code objectInit ⟨#[0xb1]⟩ 1 none) (by decide +kernel)
  have wk7 := hts (.classLink RX3 7 RX2) (by decide +kernel)
  have wiX2 := hts (.instantiable RX2 5) (by decide +kernel)
  have wzX2 := hts (.initialized RX2) (by decide +kernel)
  have hiX2 : ∀ w ∈ u_ws RX2 TX2 5, w ∈ wsX3_init := by decide +kernel
  have wl_yX2_init := hts (.methodLink RX3 11 yX2_init) (by decide +kernel)
  have wm_yX2_init := hts (.instanceMethod yX2_init) (by decide +kernel)
  have wf14 := hts (.fieldLink RX3 14 "NetTwinModel" "net" "LNetTwinModel$Nodes;") (by decide +kernel)
  have hiX3 : ∀ w ∈ u_ws RX3 TX3 11, w ∈ wsX3_init := by decide +kernel
  have wf18 := hts (.fieldLink RX3 18 "NetTwinModel" "twin" "LNetTwinModel$Nodes;") (by decide +kernel)
  have waint := hts (.arrayClass .int) (by decide +kernel)
  have wf21 := hts (.fieldLink RX3 21 "NetTwinModel" "inputs" "[I") (by decide +kernel)
  have wf25 := hts (.fieldLink RX3 25 "NetTwinModel" "bits" "[I") (by decide +kernel)
  have wf28 := hts (.fieldLink RX3 28 "NetTwinModel" "taints" "[I") (by decide +kernel)
  have wf31 := hts (.fieldLink RX3 31 "NetTwinModel" "valueOf" "[I") (by decide +kernel)
  have wf34 := hts (.fieldLink RX3 34 "NetTwinModel" "taintOf" "[I") (by decide +kernel)
  have wf37 := hts (.fieldLink RX3 37 "NetTwinModel" "now" "[I") (by decide +kernel)
  have wf40 := hts (.fieldLink RX3 40 "NetTwinModel" "marks" "[I") (by decide +kernel)
  have hP : va_P D vwCl [(y, .inr (3, [.null, .null, .int 0, .null, .int 0, .null, .null, .null, .null, .null, .null]))] s.heap := hP
  have hD : va_D A [(y, .inr (3, [.null, .null, .int 0, .null, .int 0, .null, .null, .null, .null, .null, .null]))] := hD
  have hl : lv_has ls 1 [(0, .ref y)] := hl
  refine lv_aload_n hx hb dX3_init_0 rfl (lv_at hl 0 rfl) ?_
  refine W.objInit hx hb hown wo1 wo2 wo3 rfl (hl.1.trans hml.symm) rfl dX3_init_1 (Nat.le_of_ble_eq_true rfl) (Nat.le_of_ble_eq_true rfl) ?_
  refine lv_aload_n hx hb dX3_init_4 rfl (lv_at hl 0 rfl) ?_
  refine va_new (D := D) (ci := 2) (C := RX2) (T := TX2) (N := 5) (fs := [.null, .null, .int 0, .int 0, .int 0]) hx hb hts hiX2 tyX2 tyX2_ok hown wk7 wiX2 wzX2 hK hP hD hS hA rfl (by intro j hj; rcases (show j = 0 ∨ j = 1 ∨ j = 2 ∨ j = 3 ∨ j = 4 by omega) with rfl | rfl | rfl | rfl | rfl <;> rfl) (Nat.le_of_ble_eq_true rfl) (Nat.le_of_ble_eq_true rfl) dX3_init_5 (fun q5 H hP hD hS => ?_)
  have hP : va_P D vwCl [(y, .inr (3, [.null, .null, .int 0, .null, .int 0, .null, .null, .null, .null, .null, .null])), (q5, .inr (2, [.null, .null, .int 0, .int 0, .int 0]))] H := hP
  have hD : va_D A [(y, .inr (3, [.null, .null, .int 0, .null, .int 0, .null, .null, .null, .null, .null, .null])), (q5, .inr (2, [.null, .null, .int 0, .int 0, .int 0]))] := hD
  refine lv_dup hx hb dX3_init_8 rfl ?_
  refine lv_sipush (v := nI 400) hx hb dX3_init_9 (by decide) ?_
  refine x_callv (wc := [(q5, .inr (2, [.null, .null, .int 0, .int 0, .int 0]))]) (wr := [(y, .inr (3, [.null, .null, .int 0, .null, .int 0, .null, .null, .null, .null, .null, .null]))]) (w2 := fun (u : Nat × Nat × (Nat → Int32) × (Nat → Int32)) => [(y, .inr (3, [.null, .null, .int 0, .null, .int 0, .null, .null, .null, .null, .null, .null])), (q5, .inr (2, [.ref u.1, .ref u.2.1, .int (nI 1), .int (nI 0), .int (nI 400)])), (u.1, .inl (cyI, 16, .inl u.2.2.1)), (u.2.1, .inl (cyI, 16, .inl u.2.2.2))]) [1] [0] [0, 1, 2, 3] (va_runI (As := [.int (nI 400)]) (rest := [.ref q5, .ref y]) ⟨hx, hb, hml, hown, hts⟩ (c_X2_init lch D cyI cyJ _ q5 400 ) (cwI 1 hts gX3_init_X2_init rfl rfl rfl wzX2 wl_yX2_init wm_yX2_init rfl (by decide +kernel) ⟨Nat.le_of_ble_eq_true rfl, Nat.le_of_ble_eq_true rfl⟩) (x_pre hK hNN (hP.sub (ws' := [(q5, .inr (2, [.null, .null, .int 0, .int 0, .int 0]))]) [1] rfl) (hD.sub (ws' := [(q5, .inr (2, [.null, .null, .int 0, .int 0, .int 0]))]) [1] (by decide) rfl) rfl rfl) rfl rfl hl.1 rfl (lv_room (Nat.le_of_ble_eq_true rfl)) dX3_init_12 ⟨Nat.le_of_ble_eq_true rfl, Nat.le_of_ble_eq_true rfl⟩) rfl hP hD hS hA rfl rfl (by decide) (by decide) (fun _ => rfl) (by decide) (fun u12 H locs hw12 hP hD hS hz12 => ?_)
  obtain ⟨n1, n2, lf, of⟩ := u12
  have hP : va_P D vwCl [(y, .inr (3, [.null, .null, .int 0, .null, .int 0, .null, .null, .null, .null, .null, .null])), (q5, .inr (2, [.ref n1, .ref n2, .int (nI 1), .int (nI 0), .int (nI 400)])), (n1, .inl (cyI, 16, .inl lf)), (n2, .inl (cyI, 16, .inl of))] H := hP
  have hD : va_D A [(y, .inr (3, [.null, .null, .int 0, .null, .int 0, .null, .null, .null, .null, .null, .null])), (q5, .inr (2, [.ref n1, .ref n2, .int (nI 1), .int (nI 0), .int (nI 400)])), (n1, .inl (cyI, 16, .inl lf)), (n2, .inl (cyI, 16, .inl of))] := hD
  have hw12 : lf 0 = -1 ∧ of 0 = -1 := hw12
  obtain ⟨g1, g2⟩ := hw12
  refine va_putF (D := D) (ci := 3) (v := .ref q5) (ty := .object "NetTwinModel$Nodes") (C := RX3) (T := TX3) (N := 11) hx hb hts hiX3 tyX3 tyX3_ok nmX3 hown hK hP hD hS 0 rfl rfl 0 (by decide) wf14 (fun _ h9 => h9) rfl hnm rfl (by decide +kernel) rfl rfl (Nat.le_of_ble_eq_true rfl) dX3_init_15 (fun H locs hP hD hS => ?_)
  have hP : va_P D vwCl [(y, .inr (3, [.ref q5, .null, .int 0, .null, .int 0, .null, .null, .null, .null, .null, .null])), (q5, .inr (2, [.ref n1, .ref n2, .int (nI 1), .int (nI 0), .int (nI 400)])), (n1, .inl (cyI, 16, .inl lf)), (n2, .inl (cyI, 16, .inl of))] H := hP
  have hD : va_D A [(y, .inr (3, [.ref q5, .null, .int 0, .null, .int 0, .null, .null, .null, .null, .null, .null])), (q5, .inr (2, [.ref n1, .ref n2, .int (nI 1), .int (nI 0), .int (nI 400)])), (n1, .inl (cyI, 16, .inl lf)), (n2, .inl (cyI, 16, .inl of))] := hD
  refine lv_aload_n hx hb dX3_init_18 rfl (lv_at hl 0 rfl) ?_
  refine va_new (D := D) (ci := 2) (C := RX2) (T := TX2) (N := 5) (fs := [.null, .null, .int 0, .int 0, .int 0]) hx hb hts hiX2 tyX2 tyX2_ok hown wk7 wiX2 wzX2 hK hP hD hS hA rfl (by intro j hj; rcases (show j = 0 ∨ j = 1 ∨ j = 2 ∨ j = 3 ∨ j = 4 by omega) with rfl | rfl | rfl | rfl | rfl <;> rfl) (Nat.le_of_ble_eq_true rfl) (Nat.le_of_ble_eq_true rfl) dX3_init_19 (fun q19 H hP hD hS => ?_)
  have hP : va_P D vwCl [(y, .inr (3, [.ref q5, .null, .int 0, .null, .int 0, .null, .null, .null, .null, .null, .null])), (q5, .inr (2, [.ref n1, .ref n2, .int (nI 1), .int (nI 0), .int (nI 400)])), (n1, .inl (cyI, 16, .inl lf)), (n2, .inl (cyI, 16, .inl of)), (q19, .inr (2, [.null, .null, .int 0, .int 0, .int 0]))] H := hP
  have hD : va_D A [(y, .inr (3, [.ref q5, .null, .int 0, .null, .int 0, .null, .null, .null, .null, .null, .null])), (q5, .inr (2, [.ref n1, .ref n2, .int (nI 1), .int (nI 0), .int (nI 400)])), (n1, .inl (cyI, 16, .inl lf)), (n2, .inl (cyI, 16, .inl of)), (q19, .inr (2, [.null, .null, .int 0, .int 0, .int 0]))] := hD
  refine lv_dup hx hb dX3_init_22 rfl ?_
  refine lv_sipush (v := nI 1500) hx hb dX3_init_23 (by decide) ?_
  refine x_callv (wc := [(q19, .inr (2, [.null, .null, .int 0, .int 0, .int 0]))]) (wr := [(y, .inr (3, [.ref q5, .null, .int 0, .null, .int 0, .null, .null, .null, .null, .null, .null])), (q5, .inr (2, [.ref n1, .ref n2, .int (nI 1), .int (nI 0), .int (nI 400)])), (n1, .inl (cyI, 16, .inl lf)), (n2, .inl (cyI, 16, .inl of))]) (w2 := fun (u : Nat × Nat × (Nat → Int32) × (Nat → Int32)) => [(y, .inr (3, [.ref q5, .null, .int 0, .null, .int 0, .null, .null, .null, .null, .null, .null])), (q5, .inr (2, [.ref n1, .ref n2, .int (nI 1), .int (nI 0), .int (nI 400)])), (n1, .inl (cyI, 16, .inl lf)), (n2, .inl (cyI, 16, .inl of)), (q19, .inr (2, [.ref u.1, .ref u.2.1, .int (nI 1), .int (nI 0), .int (nI 1500)])), (u.1, .inl (cyI, 16, .inl u.2.2.1)), (u.2.1, .inl (cyI, 16, .inl u.2.2.2))]) [4] [0, 1, 2, 3] [0, 1, 2, 3, 4, 5, 6] (va_runI (As := [.int (nI 1500)]) (rest := [.ref q19, .ref y]) ⟨hx, hb, hml, hown, hts⟩ (c_X2_init lch D cyI cyJ _ q19 1500 ) (cwI 1 hts gX3_init_X2_init rfl rfl rfl wzX2 wl_yX2_init wm_yX2_init rfl (by decide +kernel) ⟨Nat.le_of_ble_eq_true rfl, Nat.le_of_ble_eq_true rfl⟩) (x_pre hK hNN (hP.sub (ws' := [(q19, .inr (2, [.null, .null, .int 0, .int 0, .int 0]))]) [4] rfl) (hD.sub (ws' := [(q19, .inr (2, [.null, .null, .int 0, .int 0, .int 0]))]) [4] (by decide) rfl) rfl rfl) rfl rfl hl.1 rfl (lv_room (Nat.le_of_ble_eq_true rfl)) dX3_init_26 ⟨Nat.le_of_ble_eq_true rfl, Nat.le_of_ble_eq_true rfl⟩) rfl hP hD hS hA rfl rfl (by decide) (by decide) (fun _ => rfl) (by decide) (fun u26 H locs hw26 hP hD hS hz26 => ?_)
  obtain ⟨t1, t2, tlf, tof⟩ := u26
  have hP : va_P D vwCl [(y, .inr (3, [.ref q5, .null, .int 0, .null, .int 0, .null, .null, .null, .null, .null, .null])), (q5, .inr (2, [.ref n1, .ref n2, .int (nI 1), .int (nI 0), .int (nI 400)])), (n1, .inl (cyI, 16, .inl lf)), (n2, .inl (cyI, 16, .inl of)), (q19, .inr (2, [.ref t1, .ref t2, .int (nI 1), .int (nI 0), .int (nI 1500)])), (t1, .inl (cyI, 16, .inl tlf)), (t2, .inl (cyI, 16, .inl tof))] H := hP
  have hD : va_D A [(y, .inr (3, [.ref q5, .null, .int 0, .null, .int 0, .null, .null, .null, .null, .null, .null])), (q5, .inr (2, [.ref n1, .ref n2, .int (nI 1), .int (nI 0), .int (nI 400)])), (n1, .inl (cyI, 16, .inl lf)), (n2, .inl (cyI, 16, .inl of)), (q19, .inr (2, [.ref t1, .ref t2, .int (nI 1), .int (nI 0), .int (nI 1500)])), (t1, .inl (cyI, 16, .inl tlf)), (t2, .inl (cyI, 16, .inl tof))] := hD
  have hw26 : tlf 0 = -1 ∧ tof 0 = -1 := hw26
  obtain ⟨g3, g4⟩ := hw26
  refine va_putF (D := D) (ci := 3) (v := .ref q19) (ty := .object "NetTwinModel$Nodes") (C := RX3) (T := TX3) (N := 11) hx hb hts hiX3 tyX3 tyX3_ok nmX3 hown hK hP hD hS 0 rfl rfl 1 (by decide) wf18 (fun _ h9 => h9) rfl hnm rfl (by decide +kernel) rfl rfl (Nat.le_of_ble_eq_true rfl) dX3_init_29 (fun H locs hP hD hS => ?_)
  have hP : va_P D vwCl [(y, .inr (3, [.ref q5, .ref q19, .int 0, .null, .int 0, .null, .null, .null, .null, .null, .null])), (q5, .inr (2, [.ref n1, .ref n2, .int (nI 1), .int (nI 0), .int (nI 400)])), (n1, .inl (cyI, 16, .inl lf)), (n2, .inl (cyI, 16, .inl of)), (q19, .inr (2, [.ref t1, .ref t2, .int (nI 1), .int (nI 0), .int (nI 1500)])), (t1, .inl (cyI, 16, .inl tlf)), (t2, .inl (cyI, 16, .inl tof))] H := hP
  have hD : va_D A [(y, .inr (3, [.ref q5, .ref q19, .int 0, .null, .int 0, .null, .null, .null, .null, .null, .null])), (q5, .inr (2, [.ref n1, .ref n2, .int (nI 1), .int (nI 0), .int (nI 400)])), (n1, .inl (cyI, 16, .inl lf)), (n2, .inl (cyI, 16, .inl of)), (q19, .inr (2, [.ref t1, .ref t2, .int (nI 1), .int (nI 0), .int (nI 1500)])), (t1, .inl (cyI, 16, .inl tlf)), (t2, .inl (cyI, 16, .inl tof))] := hD
  refine lv_aload_n hx hb dX3_init_32 rfl (lv_at hl 0 rfl) ?_
  refine lv_bipush (v := nI 64) hx hb dX3_init_33 (by decide) ?_
  refine x_newai hx hb waint hK hP hD hS hA (by omega) (Nat.le_of_ble_eq_true rfl) (Nat.le_of_ble_eq_true rfl) dX3_init_35 (fun q35 H hP hD hS => ?_)
  have hP : va_P D vwCl [(y, .inr (3, [.ref q5, .ref q19, .int 0, .null, .int 0, .null, .null, .null, .null, .null, .null])), (q5, .inr (2, [.ref n1, .ref n2, .int (nI 1), .int (nI 0), .int (nI 400)])), (n1, .inl (cyI, 16, .inl lf)), (n2, .inl (cyI, 16, .inl of)), (q19, .inr (2, [.ref t1, .ref t2, .int (nI 1), .int (nI 0), .int (nI 1500)])), (t1, .inl (cyI, 16, .inl tlf)), (t2, .inl (cyI, 16, .inl tof)), (q35, .inl (cyI, 64, .inl (fun _ => 0)))] H := hP
  have hD : va_D A [(y, .inr (3, [.ref q5, .ref q19, .int 0, .null, .int 0, .null, .null, .null, .null, .null, .null])), (q5, .inr (2, [.ref n1, .ref n2, .int (nI 1), .int (nI 0), .int (nI 400)])), (n1, .inl (cyI, 16, .inl lf)), (n2, .inl (cyI, 16, .inl of)), (q19, .inr (2, [.ref t1, .ref t2, .int (nI 1), .int (nI 0), .int (nI 1500)])), (t1, .inl (cyI, 16, .inl tlf)), (t2, .inl (cyI, 16, .inl tof)), (q35, .inl (cyI, 64, .inl (fun _ => 0)))] := hD
  refine va_putF (D := D) (ci := 3) (v := .ref q35) (ty := .array .int) (C := RX3) (T := TX3) (N := 11) hx hb hts hiX3 tyX3 tyX3_ok nmX3 hown hK hP hD hS 0 rfl rfl 3 (by decide) wf21 (fun _ h9 => h9) rfl hnm rfl (by decide +kernel) rfl rfl (Nat.le_of_ble_eq_true rfl) dX3_init_37 (fun H locs hP hD hS => ?_)
  have hP : va_P D vwCl [(y, .inr (3, [.ref q5, .ref q19, .int 0, .ref q35, .int 0, .null, .null, .null, .null, .null, .null])), (q5, .inr (2, [.ref n1, .ref n2, .int (nI 1), .int (nI 0), .int (nI 400)])), (n1, .inl (cyI, 16, .inl lf)), (n2, .inl (cyI, 16, .inl of)), (q19, .inr (2, [.ref t1, .ref t2, .int (nI 1), .int (nI 0), .int (nI 1500)])), (t1, .inl (cyI, 16, .inl tlf)), (t2, .inl (cyI, 16, .inl tof)), (q35, .inl (cyI, 64, .inl (fun _ => 0)))] H := hP
  have hD : va_D A [(y, .inr (3, [.ref q5, .ref q19, .int 0, .ref q35, .int 0, .null, .null, .null, .null, .null, .null])), (q5, .inr (2, [.ref n1, .ref n2, .int (nI 1), .int (nI 0), .int (nI 400)])), (n1, .inl (cyI, 16, .inl lf)), (n2, .inl (cyI, 16, .inl of)), (q19, .inr (2, [.ref t1, .ref t2, .int (nI 1), .int (nI 0), .int (nI 1500)])), (t1, .inl (cyI, 16, .inl tlf)), (t2, .inl (cyI, 16, .inl tof)), (q35, .inl (cyI, 64, .inl (fun _ => 0)))] := hD
  refine lv_aload_n hx hb dX3_init_40 rfl (lv_at hl 0 rfl) ?_
  refine lv_bipush (v := nI 64) hx hb dX3_init_41 (by decide) ?_
  refine x_newai hx hb waint hK hP hD hS hA (by omega) (Nat.le_of_ble_eq_true rfl) (Nat.le_of_ble_eq_true rfl) dX3_init_43 (fun q43 H hP hD hS => ?_)
  have hP : va_P D vwCl [(y, .inr (3, [.ref q5, .ref q19, .int 0, .ref q35, .int 0, .null, .null, .null, .null, .null, .null])), (q5, .inr (2, [.ref n1, .ref n2, .int (nI 1), .int (nI 0), .int (nI 400)])), (n1, .inl (cyI, 16, .inl lf)), (n2, .inl (cyI, 16, .inl of)), (q19, .inr (2, [.ref t1, .ref t2, .int (nI 1), .int (nI 0), .int (nI 1500)])), (t1, .inl (cyI, 16, .inl tlf)), (t2, .inl (cyI, 16, .inl tof)), (q35, .inl (cyI, 64, .inl (fun _ => 0))), (q43, .inl (cyI, 64, .inl (fun _ => 0)))] H := hP
  have hD : va_D A [(y, .inr (3, [.ref q5, .ref q19, .int 0, .ref q35, .int 0, .null, .null, .null, .null, .null, .null])), (q5, .inr (2, [.ref n1, .ref n2, .int (nI 1), .int (nI 0), .int (nI 400)])), (n1, .inl (cyI, 16, .inl lf)), (n2, .inl (cyI, 16, .inl of)), (q19, .inr (2, [.ref t1, .ref t2, .int (nI 1), .int (nI 0), .int (nI 1500)])), (t1, .inl (cyI, 16, .inl tlf)), (t2, .inl (cyI, 16, .inl tof)), (q35, .inl (cyI, 64, .inl (fun _ => 0))), (q43, .inl (cyI, 64, .inl (fun _ => 0)))] := hD
  refine va_putF (D := D) (ci := 3) (v := .ref q43) (ty := .array .int) (C := RX3) (T := TX3) (N := 11) hx hb hts hiX3 tyX3 tyX3_ok nmX3 hown hK hP hD hS 0 rfl rfl 5 (by decide) wf25 (fun _ h9 => h9) rfl hnm rfl (by decide +kernel) rfl rfl (Nat.le_of_ble_eq_true rfl) dX3_init_45 (fun H locs hP hD hS => ?_)
  have hP : va_P D vwCl [(y, .inr (3, [.ref q5, .ref q19, .int 0, .ref q35, .int 0, .ref q43, .null, .null, .null, .null, .null])), (q5, .inr (2, [.ref n1, .ref n2, .int (nI 1), .int (nI 0), .int (nI 400)])), (n1, .inl (cyI, 16, .inl lf)), (n2, .inl (cyI, 16, .inl of)), (q19, .inr (2, [.ref t1, .ref t2, .int (nI 1), .int (nI 0), .int (nI 1500)])), (t1, .inl (cyI, 16, .inl tlf)), (t2, .inl (cyI, 16, .inl tof)), (q35, .inl (cyI, 64, .inl (fun _ => 0))), (q43, .inl (cyI, 64, .inl (fun _ => 0)))] H := hP
  have hD : va_D A [(y, .inr (3, [.ref q5, .ref q19, .int 0, .ref q35, .int 0, .ref q43, .null, .null, .null, .null, .null])), (q5, .inr (2, [.ref n1, .ref n2, .int (nI 1), .int (nI 0), .int (nI 400)])), (n1, .inl (cyI, 16, .inl lf)), (n2, .inl (cyI, 16, .inl of)), (q19, .inr (2, [.ref t1, .ref t2, .int (nI 1), .int (nI 0), .int (nI 1500)])), (t1, .inl (cyI, 16, .inl tlf)), (t2, .inl (cyI, 16, .inl tof)), (q35, .inl (cyI, 64, .inl (fun _ => 0))), (q43, .inl (cyI, 64, .inl (fun _ => 0)))] := hD
  refine lv_aload_n hx hb dX3_init_48 rfl (lv_at hl 0 rfl) ?_
  refine lv_bipush (v := nI 64) hx hb dX3_init_49 (by decide) ?_
  refine x_newai hx hb waint hK hP hD hS hA (by omega) (Nat.le_of_ble_eq_true rfl) (Nat.le_of_ble_eq_true rfl) dX3_init_51 (fun q51 H hP hD hS => ?_)
  have hP : va_P D vwCl [(y, .inr (3, [.ref q5, .ref q19, .int 0, .ref q35, .int 0, .ref q43, .null, .null, .null, .null, .null])), (q5, .inr (2, [.ref n1, .ref n2, .int (nI 1), .int (nI 0), .int (nI 400)])), (n1, .inl (cyI, 16, .inl lf)), (n2, .inl (cyI, 16, .inl of)), (q19, .inr (2, [.ref t1, .ref t2, .int (nI 1), .int (nI 0), .int (nI 1500)])), (t1, .inl (cyI, 16, .inl tlf)), (t2, .inl (cyI, 16, .inl tof)), (q35, .inl (cyI, 64, .inl (fun _ => 0))), (q43, .inl (cyI, 64, .inl (fun _ => 0))), (q51, .inl (cyI, 64, .inl (fun _ => 0)))] H := hP
  have hD : va_D A [(y, .inr (3, [.ref q5, .ref q19, .int 0, .ref q35, .int 0, .ref q43, .null, .null, .null, .null, .null])), (q5, .inr (2, [.ref n1, .ref n2, .int (nI 1), .int (nI 0), .int (nI 400)])), (n1, .inl (cyI, 16, .inl lf)), (n2, .inl (cyI, 16, .inl of)), (q19, .inr (2, [.ref t1, .ref t2, .int (nI 1), .int (nI 0), .int (nI 1500)])), (t1, .inl (cyI, 16, .inl tlf)), (t2, .inl (cyI, 16, .inl tof)), (q35, .inl (cyI, 64, .inl (fun _ => 0))), (q43, .inl (cyI, 64, .inl (fun _ => 0))), (q51, .inl (cyI, 64, .inl (fun _ => 0)))] := hD
  refine va_putF (D := D) (ci := 3) (v := .ref q51) (ty := .array .int) (C := RX3) (T := TX3) (N := 11) hx hb hts hiX3 tyX3 tyX3_ok nmX3 hown hK hP hD hS 0 rfl rfl 6 (by decide) wf28 (fun _ h9 => h9) rfl hnm rfl (by decide +kernel) rfl rfl (Nat.le_of_ble_eq_true rfl) dX3_init_53 (fun H locs hP hD hS => ?_)
  have hP : va_P D vwCl [(y, .inr (3, [.ref q5, .ref q19, .int 0, .ref q35, .int 0, .ref q43, .ref q51, .null, .null, .null, .null])), (q5, .inr (2, [.ref n1, .ref n2, .int (nI 1), .int (nI 0), .int (nI 400)])), (n1, .inl (cyI, 16, .inl lf)), (n2, .inl (cyI, 16, .inl of)), (q19, .inr (2, [.ref t1, .ref t2, .int (nI 1), .int (nI 0), .int (nI 1500)])), (t1, .inl (cyI, 16, .inl tlf)), (t2, .inl (cyI, 16, .inl tof)), (q35, .inl (cyI, 64, .inl (fun _ => 0))), (q43, .inl (cyI, 64, .inl (fun _ => 0))), (q51, .inl (cyI, 64, .inl (fun _ => 0)))] H := hP
  have hD : va_D A [(y, .inr (3, [.ref q5, .ref q19, .int 0, .ref q35, .int 0, .ref q43, .ref q51, .null, .null, .null, .null])), (q5, .inr (2, [.ref n1, .ref n2, .int (nI 1), .int (nI 0), .int (nI 400)])), (n1, .inl (cyI, 16, .inl lf)), (n2, .inl (cyI, 16, .inl of)), (q19, .inr (2, [.ref t1, .ref t2, .int (nI 1), .int (nI 0), .int (nI 1500)])), (t1, .inl (cyI, 16, .inl tlf)), (t2, .inl (cyI, 16, .inl tof)), (q35, .inl (cyI, 64, .inl (fun _ => 0))), (q43, .inl (cyI, 64, .inl (fun _ => 0))), (q51, .inl (cyI, 64, .inl (fun _ => 0)))] := hD
  refine lv_aload_n hx hb dX3_init_56 rfl (lv_at hl 0 rfl) ?_
  refine lv_bipush (v := nI 16) hx hb dX3_init_57 (by decide) ?_
  refine x_newai hx hb waint hK hP hD hS hA (by omega) (Nat.le_of_ble_eq_true rfl) (Nat.le_of_ble_eq_true rfl) dX3_init_59 (fun q59 H hP hD hS => ?_)
  have hP : va_P D vwCl [(y, .inr (3, [.ref q5, .ref q19, .int 0, .ref q35, .int 0, .ref q43, .ref q51, .null, .null, .null, .null])), (q5, .inr (2, [.ref n1, .ref n2, .int (nI 1), .int (nI 0), .int (nI 400)])), (n1, .inl (cyI, 16, .inl lf)), (n2, .inl (cyI, 16, .inl of)), (q19, .inr (2, [.ref t1, .ref t2, .int (nI 1), .int (nI 0), .int (nI 1500)])), (t1, .inl (cyI, 16, .inl tlf)), (t2, .inl (cyI, 16, .inl tof)), (q35, .inl (cyI, 64, .inl (fun _ => 0))), (q43, .inl (cyI, 64, .inl (fun _ => 0))), (q51, .inl (cyI, 64, .inl (fun _ => 0))), (q59, .inl (cyI, 16, .inl (fun _ => 0)))] H := hP
  have hD : va_D A [(y, .inr (3, [.ref q5, .ref q19, .int 0, .ref q35, .int 0, .ref q43, .ref q51, .null, .null, .null, .null])), (q5, .inr (2, [.ref n1, .ref n2, .int (nI 1), .int (nI 0), .int (nI 400)])), (n1, .inl (cyI, 16, .inl lf)), (n2, .inl (cyI, 16, .inl of)), (q19, .inr (2, [.ref t1, .ref t2, .int (nI 1), .int (nI 0), .int (nI 1500)])), (t1, .inl (cyI, 16, .inl tlf)), (t2, .inl (cyI, 16, .inl tof)), (q35, .inl (cyI, 64, .inl (fun _ => 0))), (q43, .inl (cyI, 64, .inl (fun _ => 0))), (q51, .inl (cyI, 64, .inl (fun _ => 0))), (q59, .inl (cyI, 16, .inl (fun _ => 0)))] := hD
  refine va_put (D := D) (ci := 3) (v := .ref q59) (ty := .array .int) (C := RX3) (T := TX3) (N := 11) hx hb hts hiX3 tyX3 tyX3_ok nmX3 hown hK hP hD hS 0 rfl rfl 7 (by decide) wf31 (fun _ h9 => h9) rfl (by decide +kernel) rfl rfl (Nat.le_of_ble_eq_true rfl) dX3_init_61 (fun H locs hP hD hS => ?_)
  have hP : va_P D vwCl [(y, .inr (3, [.ref q5, .ref q19, .int 0, .ref q35, .int 0, .ref q43, .ref q51, .ref q59, .null, .null, .null])), (q5, .inr (2, [.ref n1, .ref n2, .int (nI 1), .int (nI 0), .int (nI 400)])), (n1, .inl (cyI, 16, .inl lf)), (n2, .inl (cyI, 16, .inl of)), (q19, .inr (2, [.ref t1, .ref t2, .int (nI 1), .int (nI 0), .int (nI 1500)])), (t1, .inl (cyI, 16, .inl tlf)), (t2, .inl (cyI, 16, .inl tof)), (q35, .inl (cyI, 64, .inl (fun _ => 0))), (q43, .inl (cyI, 64, .inl (fun _ => 0))), (q51, .inl (cyI, 64, .inl (fun _ => 0))), (q59, .inl (cyI, 16, .inl (fun _ => 0)))] H := hP
  have hD : va_D A [(y, .inr (3, [.ref q5, .ref q19, .int 0, .ref q35, .int 0, .ref q43, .ref q51, .ref q59, .null, .null, .null])), (q5, .inr (2, [.ref n1, .ref n2, .int (nI 1), .int (nI 0), .int (nI 400)])), (n1, .inl (cyI, 16, .inl lf)), (n2, .inl (cyI, 16, .inl of)), (q19, .inr (2, [.ref t1, .ref t2, .int (nI 1), .int (nI 0), .int (nI 1500)])), (t1, .inl (cyI, 16, .inl tlf)), (t2, .inl (cyI, 16, .inl tof)), (q35, .inl (cyI, 64, .inl (fun _ => 0))), (q43, .inl (cyI, 64, .inl (fun _ => 0))), (q51, .inl (cyI, 64, .inl (fun _ => 0))), (q59, .inl (cyI, 16, .inl (fun _ => 0)))] := hD
  refine lv_aload_n hx hb dX3_init_64 rfl (lv_at hl 0 rfl) ?_
  refine lv_bipush (v := nI 16) hx hb dX3_init_65 (by decide) ?_
  refine x_newai hx hb waint hK hP hD hS hA (by omega) (Nat.le_of_ble_eq_true rfl) (Nat.le_of_ble_eq_true rfl) dX3_init_67 (fun q67 H hP hD hS => ?_)
  have hP : va_P D vwCl [(y, .inr (3, [.ref q5, .ref q19, .int 0, .ref q35, .int 0, .ref q43, .ref q51, .ref q59, .null, .null, .null])), (q5, .inr (2, [.ref n1, .ref n2, .int (nI 1), .int (nI 0), .int (nI 400)])), (n1, .inl (cyI, 16, .inl lf)), (n2, .inl (cyI, 16, .inl of)), (q19, .inr (2, [.ref t1, .ref t2, .int (nI 1), .int (nI 0), .int (nI 1500)])), (t1, .inl (cyI, 16, .inl tlf)), (t2, .inl (cyI, 16, .inl tof)), (q35, .inl (cyI, 64, .inl (fun _ => 0))), (q43, .inl (cyI, 64, .inl (fun _ => 0))), (q51, .inl (cyI, 64, .inl (fun _ => 0))), (q59, .inl (cyI, 16, .inl (fun _ => 0))), (q67, .inl (cyI, 16, .inl (fun _ => 0)))] H := hP
  have hD : va_D A [(y, .inr (3, [.ref q5, .ref q19, .int 0, .ref q35, .int 0, .ref q43, .ref q51, .ref q59, .null, .null, .null])), (q5, .inr (2, [.ref n1, .ref n2, .int (nI 1), .int (nI 0), .int (nI 400)])), (n1, .inl (cyI, 16, .inl lf)), (n2, .inl (cyI, 16, .inl of)), (q19, .inr (2, [.ref t1, .ref t2, .int (nI 1), .int (nI 0), .int (nI 1500)])), (t1, .inl (cyI, 16, .inl tlf)), (t2, .inl (cyI, 16, .inl tof)), (q35, .inl (cyI, 64, .inl (fun _ => 0))), (q43, .inl (cyI, 64, .inl (fun _ => 0))), (q51, .inl (cyI, 64, .inl (fun _ => 0))), (q59, .inl (cyI, 16, .inl (fun _ => 0))), (q67, .inl (cyI, 16, .inl (fun _ => 0)))] := hD
  refine va_put (D := D) (ci := 3) (v := .ref q67) (ty := .array .int) (C := RX3) (T := TX3) (N := 11) hx hb hts hiX3 tyX3 tyX3_ok nmX3 hown hK hP hD hS 0 rfl rfl 8 (by decide) wf34 (fun _ h9 => h9) rfl (by decide +kernel) rfl rfl (Nat.le_of_ble_eq_true rfl) dX3_init_69 (fun H locs hP hD hS => ?_)
  have hP : va_P D vwCl [(y, .inr (3, [.ref q5, .ref q19, .int 0, .ref q35, .int 0, .ref q43, .ref q51, .ref q59, .ref q67, .null, .null])), (q5, .inr (2, [.ref n1, .ref n2, .int (nI 1), .int (nI 0), .int (nI 400)])), (n1, .inl (cyI, 16, .inl lf)), (n2, .inl (cyI, 16, .inl of)), (q19, .inr (2, [.ref t1, .ref t2, .int (nI 1), .int (nI 0), .int (nI 1500)])), (t1, .inl (cyI, 16, .inl tlf)), (t2, .inl (cyI, 16, .inl tof)), (q35, .inl (cyI, 64, .inl (fun _ => 0))), (q43, .inl (cyI, 64, .inl (fun _ => 0))), (q51, .inl (cyI, 64, .inl (fun _ => 0))), (q59, .inl (cyI, 16, .inl (fun _ => 0))), (q67, .inl (cyI, 16, .inl (fun _ => 0)))] H := hP
  have hD : va_D A [(y, .inr (3, [.ref q5, .ref q19, .int 0, .ref q35, .int 0, .ref q43, .ref q51, .ref q59, .ref q67, .null, .null])), (q5, .inr (2, [.ref n1, .ref n2, .int (nI 1), .int (nI 0), .int (nI 400)])), (n1, .inl (cyI, 16, .inl lf)), (n2, .inl (cyI, 16, .inl of)), (q19, .inr (2, [.ref t1, .ref t2, .int (nI 1), .int (nI 0), .int (nI 1500)])), (t1, .inl (cyI, 16, .inl tlf)), (t2, .inl (cyI, 16, .inl tof)), (q35, .inl (cyI, 64, .inl (fun _ => 0))), (q43, .inl (cyI, 64, .inl (fun _ => 0))), (q51, .inl (cyI, 64, .inl (fun _ => 0))), (q59, .inl (cyI, 16, .inl (fun _ => 0))), (q67, .inl (cyI, 16, .inl (fun _ => 0)))] := hD
  refine lv_aload_n hx hb dX3_init_72 rfl (lv_at hl 0 rfl) ?_
  refine lv_bipush (v := nI 16) hx hb dX3_init_73 (by decide) ?_
  refine x_newai hx hb waint hK hP hD hS hA (by omega) (Nat.le_of_ble_eq_true rfl) (Nat.le_of_ble_eq_true rfl) dX3_init_75 (fun q75 H hP hD hS => ?_)
  have hP : va_P D vwCl [(y, .inr (3, [.ref q5, .ref q19, .int 0, .ref q35, .int 0, .ref q43, .ref q51, .ref q59, .ref q67, .null, .null])), (q5, .inr (2, [.ref n1, .ref n2, .int (nI 1), .int (nI 0), .int (nI 400)])), (n1, .inl (cyI, 16, .inl lf)), (n2, .inl (cyI, 16, .inl of)), (q19, .inr (2, [.ref t1, .ref t2, .int (nI 1), .int (nI 0), .int (nI 1500)])), (t1, .inl (cyI, 16, .inl tlf)), (t2, .inl (cyI, 16, .inl tof)), (q35, .inl (cyI, 64, .inl (fun _ => 0))), (q43, .inl (cyI, 64, .inl (fun _ => 0))), (q51, .inl (cyI, 64, .inl (fun _ => 0))), (q59, .inl (cyI, 16, .inl (fun _ => 0))), (q67, .inl (cyI, 16, .inl (fun _ => 0))), (q75, .inl (cyI, 16, .inl (fun _ => 0)))] H := hP
  have hD : va_D A [(y, .inr (3, [.ref q5, .ref q19, .int 0, .ref q35, .int 0, .ref q43, .ref q51, .ref q59, .ref q67, .null, .null])), (q5, .inr (2, [.ref n1, .ref n2, .int (nI 1), .int (nI 0), .int (nI 400)])), (n1, .inl (cyI, 16, .inl lf)), (n2, .inl (cyI, 16, .inl of)), (q19, .inr (2, [.ref t1, .ref t2, .int (nI 1), .int (nI 0), .int (nI 1500)])), (t1, .inl (cyI, 16, .inl tlf)), (t2, .inl (cyI, 16, .inl tof)), (q35, .inl (cyI, 64, .inl (fun _ => 0))), (q43, .inl (cyI, 64, .inl (fun _ => 0))), (q51, .inl (cyI, 64, .inl (fun _ => 0))), (q59, .inl (cyI, 16, .inl (fun _ => 0))), (q67, .inl (cyI, 16, .inl (fun _ => 0))), (q75, .inl (cyI, 16, .inl (fun _ => 0)))] := hD
  refine va_put (D := D) (ci := 3) (v := .ref q75) (ty := .array .int) (C := RX3) (T := TX3) (N := 11) hx hb hts hiX3 tyX3 tyX3_ok nmX3 hown hK hP hD hS 0 rfl rfl 9 (by decide) wf37 (fun _ h9 => h9) rfl (by decide +kernel) rfl rfl (Nat.le_of_ble_eq_true rfl) dX3_init_77 (fun H locs hP hD hS => ?_)
  have hP : va_P D vwCl [(y, .inr (3, [.ref q5, .ref q19, .int 0, .ref q35, .int 0, .ref q43, .ref q51, .ref q59, .ref q67, .ref q75, .null])), (q5, .inr (2, [.ref n1, .ref n2, .int (nI 1), .int (nI 0), .int (nI 400)])), (n1, .inl (cyI, 16, .inl lf)), (n2, .inl (cyI, 16, .inl of)), (q19, .inr (2, [.ref t1, .ref t2, .int (nI 1), .int (nI 0), .int (nI 1500)])), (t1, .inl (cyI, 16, .inl tlf)), (t2, .inl (cyI, 16, .inl tof)), (q35, .inl (cyI, 64, .inl (fun _ => 0))), (q43, .inl (cyI, 64, .inl (fun _ => 0))), (q51, .inl (cyI, 64, .inl (fun _ => 0))), (q59, .inl (cyI, 16, .inl (fun _ => 0))), (q67, .inl (cyI, 16, .inl (fun _ => 0))), (q75, .inl (cyI, 16, .inl (fun _ => 0)))] H := hP
  have hD : va_D A [(y, .inr (3, [.ref q5, .ref q19, .int 0, .ref q35, .int 0, .ref q43, .ref q51, .ref q59, .ref q67, .ref q75, .null])), (q5, .inr (2, [.ref n1, .ref n2, .int (nI 1), .int (nI 0), .int (nI 400)])), (n1, .inl (cyI, 16, .inl lf)), (n2, .inl (cyI, 16, .inl of)), (q19, .inr (2, [.ref t1, .ref t2, .int (nI 1), .int (nI 0), .int (nI 1500)])), (t1, .inl (cyI, 16, .inl tlf)), (t2, .inl (cyI, 16, .inl tof)), (q35, .inl (cyI, 64, .inl (fun _ => 0))), (q43, .inl (cyI, 64, .inl (fun _ => 0))), (q51, .inl (cyI, 64, .inl (fun _ => 0))), (q59, .inl (cyI, 16, .inl (fun _ => 0))), (q67, .inl (cyI, 16, .inl (fun _ => 0))), (q75, .inl (cyI, 16, .inl (fun _ => 0)))] := hD
  refine lv_aload_n hx hb dX3_init_80 rfl (lv_at hl 0 rfl) ?_
  refine lv_bipush (v := nI 16) hx hb dX3_init_81 (by decide) ?_
  refine x_newai hx hb waint hK hP hD hS hA (by omega) (Nat.le_of_ble_eq_true rfl) (Nat.le_of_ble_eq_true rfl) dX3_init_83 (fun q83 H hP hD hS => ?_)
  have hP : va_P D vwCl [(y, .inr (3, [.ref q5, .ref q19, .int 0, .ref q35, .int 0, .ref q43, .ref q51, .ref q59, .ref q67, .ref q75, .null])), (q5, .inr (2, [.ref n1, .ref n2, .int (nI 1), .int (nI 0), .int (nI 400)])), (n1, .inl (cyI, 16, .inl lf)), (n2, .inl (cyI, 16, .inl of)), (q19, .inr (2, [.ref t1, .ref t2, .int (nI 1), .int (nI 0), .int (nI 1500)])), (t1, .inl (cyI, 16, .inl tlf)), (t2, .inl (cyI, 16, .inl tof)), (q35, .inl (cyI, 64, .inl (fun _ => 0))), (q43, .inl (cyI, 64, .inl (fun _ => 0))), (q51, .inl (cyI, 64, .inl (fun _ => 0))), (q59, .inl (cyI, 16, .inl (fun _ => 0))), (q67, .inl (cyI, 16, .inl (fun _ => 0))), (q75, .inl (cyI, 16, .inl (fun _ => 0))), (q83, .inl (cyI, 16, .inl (fun _ => 0)))] H := hP
  have hD : va_D A [(y, .inr (3, [.ref q5, .ref q19, .int 0, .ref q35, .int 0, .ref q43, .ref q51, .ref q59, .ref q67, .ref q75, .null])), (q5, .inr (2, [.ref n1, .ref n2, .int (nI 1), .int (nI 0), .int (nI 400)])), (n1, .inl (cyI, 16, .inl lf)), (n2, .inl (cyI, 16, .inl of)), (q19, .inr (2, [.ref t1, .ref t2, .int (nI 1), .int (nI 0), .int (nI 1500)])), (t1, .inl (cyI, 16, .inl tlf)), (t2, .inl (cyI, 16, .inl tof)), (q35, .inl (cyI, 64, .inl (fun _ => 0))), (q43, .inl (cyI, 64, .inl (fun _ => 0))), (q51, .inl (cyI, 64, .inl (fun _ => 0))), (q59, .inl (cyI, 16, .inl (fun _ => 0))), (q67, .inl (cyI, 16, .inl (fun _ => 0))), (q75, .inl (cyI, 16, .inl (fun _ => 0))), (q83, .inl (cyI, 16, .inl (fun _ => 0)))] := hD
  refine va_put (D := D) (ci := 3) (v := .ref q83) (ty := .array .int) (C := RX3) (T := TX3) (N := 11) hx hb hts hiX3 tyX3 tyX3_ok nmX3 hown hK hP hD hS 0 rfl rfl 10 (by decide) wf40 (fun _ h9 => h9) rfl (by decide +kernel) rfl rfl (Nat.le_of_ble_eq_true rfl) dX3_init_85 (fun H locs hP hD hS => ?_)
  have hP : va_P D vwCl [(y, .inr (3, [.ref q5, .ref q19, .int 0, .ref q35, .int 0, .ref q43, .ref q51, .ref q59, .ref q67, .ref q75, .ref q83])), (q5, .inr (2, [.ref n1, .ref n2, .int (nI 1), .int (nI 0), .int (nI 400)])), (n1, .inl (cyI, 16, .inl lf)), (n2, .inl (cyI, 16, .inl of)), (q19, .inr (2, [.ref t1, .ref t2, .int (nI 1), .int (nI 0), .int (nI 1500)])), (t1, .inl (cyI, 16, .inl tlf)), (t2, .inl (cyI, 16, .inl tof)), (q35, .inl (cyI, 64, .inl (fun _ => 0))), (q43, .inl (cyI, 64, .inl (fun _ => 0))), (q51, .inl (cyI, 64, .inl (fun _ => 0))), (q59, .inl (cyI, 16, .inl (fun _ => 0))), (q67, .inl (cyI, 16, .inl (fun _ => 0))), (q75, .inl (cyI, 16, .inl (fun _ => 0))), (q83, .inl (cyI, 16, .inl (fun _ => 0)))] H := hP
  have hD : va_D A [(y, .inr (3, [.ref q5, .ref q19, .int 0, .ref q35, .int 0, .ref q43, .ref q51, .ref q59, .ref q67, .ref q75, .ref q83])), (q5, .inr (2, [.ref n1, .ref n2, .int (nI 1), .int (nI 0), .int (nI 400)])), (n1, .inl (cyI, 16, .inl lf)), (n2, .inl (cyI, 16, .inl of)), (q19, .inr (2, [.ref t1, .ref t2, .int (nI 1), .int (nI 0), .int (nI 1500)])), (t1, .inl (cyI, 16, .inl tlf)), (t2, .inl (cyI, 16, .inl tof)), (q35, .inl (cyI, 64, .inl (fun _ => 0))), (q43, .inl (cyI, 64, .inl (fun _ => 0))), (q51, .inl (cyI, 64, .inl (fun _ => 0))), (q59, .inl (cyI, 16, .inl (fun _ => 0))), (q67, .inl (cyI, 16, .inl (fun _ => 0))), (q75, .inl (cyI, 16, .inl (fun _ => 0))), (q83, .inl (cyI, 16, .inl (fun _ => 0)))] := hD
  exact x_vret hQ hAe hx hb hr hlocks hS hK (Nat.le_of_ble_eq_true rfl) (Nat.le_of_ble_eq_true rfl) dX3_init_88 (q5, n1, n2, q19, t1, t2, q35, q43, q51, q59, q67, q75, q83, lf, of, tlf, tof) hP hD (⟨g1, g2, g3, g4⟩)
