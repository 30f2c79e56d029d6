/-! NetTwinModel, its small methods: contracts by program (wip/whole/spec_y.py) -/
theorem bI_fit {P : Prop} [Decidable P] : fits .boolean (.int (bI P)) = true := by
  unfold bI; by_cases h : P <;> simp only [h, if_true, if_false] <;> rfl
def ofI (f : Nat → Int32) (k : Nat) : Int32 := if k % 2 = 0 then f (k / 2) else nI 1 - f (k / 2)
def rck (l : NT) (w : Nat → Int32) : Nat → (Nat → Int32)
  | 0 => w
  | n + 1 => match nAt l n with
    | none => rck l w n
    | some q => upd (rck l w n) n (ofI (rck l w n) q.1 * ofI (rck l w n) q.2)
theorem rck_n {l : NT} {w : Nat → Int32} {k : Nat} (h : nAt l k = none) : rck l w (k + 1) = rck l w k := by simp only [rck, h]
theorem rck_g {l : NT} {w : Nat → Int32} {k a b : Nat} (h : nAt l k = some (a, b)) : rck l w (k + 1) = upd (rck l w k) k (ofI (rck l w k) a * ofI (rck l w k) b) := by simp only [rck, h]
theorem upd_self (w : Nat → Int32) (k : Nat) : upd w k (w k) = w := by
  funext j
  by_cases e : j = k
  · subst e; exact pk_us
  · exact pk_un e
theorem gL_pos {g : Option (Nat × Nat)} (h : 0 ≤ gL g) : ∃ a b, g = some (a, b) := by
  cases g with
  | none => exact absurd h (by decide)
  | some q => exact ⟨q.1, q.2, rfl⟩
theorem gL_negt {l : NT} {k : Nat} (hok : nOK l) (hk : k < 100000) (h : ¬ 0 ≤ gL (nAt l k)) : nAt l k = none := by
  cases e : nAt l k with
  | none => rfl
  | some q =>
    have h3 := hok.2.2 k q.1 q.2 e
    rw [e] at h
    exact absurd (nI_pos' (n := q.1) (by omega)) h
/-- the lengths that rows of NetTwinModel have -/
def okc (c : Nat) : Prop := c = 16 ∨ c = 32 ∨ c = 64 ∨ c = 128 ∨ c = 256 ∨ c = 512 ∨ c = 1024 ∨ c = 2048
theorem okc_16 {c : Nat} (h : okc c) : 16 ≤ c ∧ c ≤ 2048 := by unfold okc at h; omega
theorem okc_2 {c : Nat} (h : okc c) (h2 : c < 2048) : okc (2 * c) := by unfold okc at h ⊢; omega
set_option maxHeartbeats 4000000 in
set_option maxRecDepth 100000 in
theorem c_X3_of (lch : Launch) (D : va_G) (cyI cyJ : ClassId) (sz : Nat) (a : Nat) (n : Nat) (f : Nat → Int32) (k : Nat) (hk : k / 2 < n) (hn : n < 10000) : Met lch yX3_of wsX3_of ({ frames := 0, cells := 0, slots := 0, locals := 0 } : Room) (va_Pc [.ref a, .int (nI k)] (xA D (xTy cyI cyJ) sz [(a, .inl (cyI, n, .inl f))])) (va_Qi (fun (r : Int32) (u : Unit) => r = ofI f k) (fun (u : Unit) t => xB D (xTy cyI cyJ) sz [(a, .inl (cyI, n, .inl f))] [(a, .inl (cyI, n, .inl f))] t) (va_A [(a, .inl (cyI, n, .inl f))] sz)) 0 0 (va_A [(a, .inl (cyI, n, .inl f))] sz) := by
  refine x_met RX3 (by decide) rfl rfl (Nat.le_of_ble_eq_true rfl) ?_
  intro p e s m below meth c A Q hAe hQ hx hb hr hlocks hml hnm hts hown hNN hK hsz hP hD hS hA ls hl
  have hP : va_P D vwCl [(a, .inl (cyI, n, .inl f))] s.heap := hP
  have hD : va_D A [(a, .inl (cyI, n, .inl f))] := hD
  have hl : lv_has ls 2 [(0, .ref a), (1, .int (nI k))] := hl
  refine lv_iload_n hx hb dX3_of_0 rfl (lv_at hl 1 rfl) ?_
  refine lv_iconst (v := nI 2) hx hb dX3_of_1 (by decide) ?_
  refine lv_irem hx hb dX3_of_2 (by decide) ?_
  refine x_top (pk_rem (by omega) (by omega) (by omega)) ?_
  refine lv_if_ne (tgt := 14) hx hb dX3_of_3 (by decide) (fun c3 => ?_) (fun c3 => ?_)
  · have c3 := mt (n0_eq (by omega)).mpr c3
    refine lv_iconst (v := nI 1) hx hb dX3_of_14 (by decide) ?_
    refine lv_aload_n hx hb dX3_of_15 rfl (lv_at hl 0 rfl) ?_
    refine lv_iload_n hx hb dX3_of_16 rfl (lv_at hl 1 rfl) ?_
    refine lv_iconst (v := nI 2) hx hb dX3_of_17 (by decide) ?_
    refine lv_idiv hx hb dX3_of_18 (by decide) ?_
    refine x_top (pk_div (by omega) (by omega) (by omega)) ?_
    refine x_iald hx hb hK hP 0 0 rfl rfl (by omega) (by omega) dX3_of_19 ?_
    refine lv_isub hx hb dX3_of_20 ?_
    refine x_top (show nI 1 - (f (k / 2)) = ofI f k from by rw [ofI, if_neg c3]) ?_
    exact x_iret hQ hAe hx hb hr hlocks (rfl) hS hK (Nat.le_of_ble_eq_true rfl) (Nat.le_of_ble_eq_true rfl) dX3_of_21 () hP hD (rfl)
  · have c3 := (n0_eq (by omega)).mp c3
    refine lv_aload_n hx hb dX3_of_6 rfl (lv_at hl 0 rfl) ?_
    refine lv_iload_n hx hb dX3_of_7 rfl (lv_at hl 1 rfl) ?_
    refine lv_iconst (v := nI 2) hx hb dX3_of_8 (by decide) ?_
    refine lv_idiv hx hb dX3_of_9 (by decide) ?_
    refine x_top (pk_div (by omega) (by omega) (by omega)) ?_
    refine x_iald hx hb hK hP 0 0 rfl rfl (by omega) (by omega) dX3_of_10 ?_
    refine lv_goto (tgt := 21) hx hb dX3_of_11 (by decide) ?_
    refine x_top (show f (k / 2) = ofI f k from by rw [ofI, if_pos c3]) ?_
    exact x_iret hQ hAe hx hb hr hlocks (rfl) hS hK (Nat.le_of_ble_eq_true rfl) (Nat.le_of_ble_eq_true rfl) dX3_of_21 () hP hD (rfl)
set_option maxHeartbeats 4000000 in
set_option maxRecDepth 100000 in
theorem c_X3_with (lch : Launch) (D : va_G) (cyI cyJ : ClassId) (sz : Nat) (a : Nat) (n : Nat) (f : Nat → Int32) (k : Nat) (V : Nat → Nat) (hk : k / 2 < n) (hn : n < 10000) (hf : f (k / 2) = nI (V (k / 2))) (hv : V (k / 2) < 50000) : Met lch yX3_with wsX3_with ({ frames := 1, cells := 0, slots := 0, locals := 20 } : Room) (va_Pc [.ref a, .int (nI k)] (xA D (xTy cyI cyJ) sz [(a, .inl (cyI, n, .inl f))])) (va_Qi (fun (r : Int32) (u : Unit) => r = nI (litN V k)) (fun (u : Unit) t => xB D (xTy cyI cyJ) sz [(a, .inl (cyI, n, .inl f))] [(a, .inl (cyI, n, .inl f))] t) (va_A [(a, .inl (cyI, n, .inl f))] sz)) 0 0 (va_A [(a, .inl (cyI, n, .inl f))] sz) := by
  refine x_met RX3 (by decide) rfl rfl (Nat.le_of_ble_eq_true rfl) ?_
  intro p e s m below meth c A Q hAe hQ hx hb hr hlocks hml hnm hts hown hNN hK hsz hP hD hS hA ls hl
  have hP : va_P D vwCl [(a, .inl (cyI, n, .inl f))] s.heap := hP
  have hD : va_D A [(a, .inl (cyI, n, .inl f))] := hD
  have hl : lv_has ls 2 [(0, .ref a), (1, .int (nI k))] := hl
  refine lv_aload_n hx hb dX3_with_0 rfl (lv_at hl 0 rfl) ?_
  refine lv_iload_n hx hb dX3_with_1 rfl (lv_at hl 1 rfl) ?_
  refine lv_iconst (v := nI 2) hx hb dX3_with_2 (by decide) ?_
  refine lv_idiv hx hb dX3_with_3 (by decide) ?_
  refine x_top (pk_div (by omega) (by omega) (by omega)) ?_
  refine x_iald hx hb hK hP 0 0 rfl rfl (by omega) (by omega) dX3_with_4 ?_
  refine x_top (show f (k / 2) = nI (V (k / 2)) from hf) ?_
  refine lv_if_ge (tgt := 12) hx hb dX3_with_5 (by decide) (fun c5 => ?_) (fun c5 => absurd (nI_pos' (by omega)) c5)
  refine lv_iload_n hx hb dX3_with_12 rfl (lv_at hl 1 rfl) ?_
  refine lv_iconst (v := nI 2) hx hb dX3_with_13 (by decide) ?_
  refine lv_irem hx hb dX3_with_14 (by decide) ?_
  refine x_top (pk_rem (by omega) (by omega) (by omega)) ?_
  refine lv_if_ne (tgt := 26) hx hb dX3_with_15 (by decide) (fun c15 => ?_) (fun c15 => ?_)
  · have c15 := mt (n0_eq (by omega)).mpr c15
    refine lv_aload_n hx hb dX3_with_26 rfl (lv_at hl 0 rfl) ?_
    refine lv_iload_n hx hb dX3_with_27 rfl (lv_at hl 1 rfl) ?_
    refine lv_iconst (v := nI 2) hx hb dX3_with_28 (by decide) ?_
    refine lv_idiv hx hb dX3_with_29 (by decide) ?_
    refine x_top (pk_div (by omega) (by omega) (by omega)) ?_
    refine x_iald hx hb hK hP 0 0 rfl rfl (by omega) (by omega) dX3_with_30 ?_
    refine x_top (show f (k / 2) = nI (V (k / 2)) from hf) ?_
    refine x_calli (wc := []) (wr := [(a, .inl (cyI, n, .inl f))]) (w2 := fun (u : Unit) => [(a, .inl (cyI, n, .inl f))]) [] [0] [0] (va_runS (As := [.int (nI (V (k / 2)))]) (rest := []) ⟨hx, hb, hml, hown, hts⟩ (c_X2_not lch D cyI cyJ _ (some (V (k / 2))) (vO_some (by omega))) (va_cwS 1 hts gX3_with_X2_not rfl rfl rfl (by decide +kernel) ⟨Nat.le_of_ble_eq_true rfl, Nat.le_of_ble_eq_true rfl⟩) (x_pre hK hNN (hP.sub (ws' := []) [] rfl) (hD.sub (ws' := []) [] (by decide) rfl) rfl rfl) rfl rfl hl.1 rfl (lv_room (Nat.le_of_ble_eq_true rfl)) dX3_with_31 ⟨Nat.le_of_ble_eq_true rfl, Nat.le_of_ble_eq_true rfl⟩) rfl hP hD hS hA rfl rfl (by decide) (by decide) (fun _ => rfl) (by decide) (fun r31 u31 H locs hw31 hP hD hS hz31 => ?_)
    have hP : va_P D vwCl [(a, .inl (cyI, n, .inl f))] H := hP
    have hD : va_D A [(a, .inl (cyI, n, .inl f))] := hD
    have hw31 : r31 = eO (nNot (some (V (k / 2)))) := hw31
    subst hw31
    refine W.widen (k := 0) (n := 0) (Nat.le_refl _) (Nat.le_refl _) ?_
    refine x_top (show eO (nNot (some (V (k / 2)))) = nI (litN V k) from by rw [litN, if_neg c15]; rfl) ?_
    exact x_iret hQ hAe hx hb hr hlocks (rfl) hS hK (Nat.le_of_ble_eq_true rfl) (Nat.le_of_ble_eq_true rfl) dX3_with_34 () hP hD (rfl)
  · have c15 := (n0_eq (by omega)).mp c15
    refine lv_aload_n hx hb dX3_with_18 rfl (lv_at hl 0 rfl) ?_
    refine lv_iload_n hx hb dX3_with_19 rfl (lv_at hl 1 rfl) ?_
    refine lv_iconst (v := nI 2) hx hb dX3_with_20 (by decide) ?_
    refine lv_idiv hx hb dX3_with_21 (by decide) ?_
    refine x_top (pk_div (by omega) (by omega) (by omega)) ?_
    refine x_iald hx hb hK hP 0 0 rfl rfl (by omega) (by omega) dX3_with_22 ?_
    refine x_top (show f (k / 2) = nI (litN V k) from by rw [hf, litN, if_pos c15]) ?_
    refine lv_goto (tgt := 34) hx hb dX3_with_23 (by decide) ?_
    exact x_iret hQ hAe hx hb hr hlocks (rfl) hS hK (Nat.le_of_ble_eq_true rfl) (Nat.le_of_ble_eq_true rfl) dX3_with_34 () hP hD (rfl)
set_option maxHeartbeats 4000000 in
set_option maxRecDepth 100000 in
theorem c_X3_made (lch : Launch) (D : va_G) (cyI cyJ : ClassId) (sz : Nat) (y : Nat) (hn : Nat) (n1 : Nat) (n2 : Nat) (ht : Nat) (t1 : Nat) (t2 : Nat) (iv : Nat) (bv : Nat) (tv : Nat) (vv : Nat) (uv : Nat) (ov : Nat) (kv : Nat) (cap : Nat) (lf : Nat → Int32) (of : Nat → Int32) (nc : Nat) (gt : Nat) (tcap : Nat) (tlf : Nat → Int32) (tof : Nat → Int32) (tnc : Nat) (tgt : Nat) (isT : Bool) (nf : Nat → Int32) (ic : Nat) (bb : Nat → Int32) (tt : Nat → Int32) (vc : Nat) (vl : Nat → Int32) (tl : Nat → Int32) (oc : Nat) (nw : Nat → Int32) (mk : Nat → Int32) (g : Nat) (lit : Int32) (hg1 : gt < 10000) (hg2 : g < 10000) : Met lch yX3_made wsX3_made ({ frames := 0, cells := 0, slots := 0, locals := 0 } : Room) (va_Pc [.ref y, .int (nI g), .int lit] (xA D (xTy cyI cyJ) sz [(y, .inr (3, [.ref hn, .ref ht, .int (bI (isT = true)), .ref iv, .int (nI ic), .ref bv, .ref tv, .ref vv, .ref uv, .ref ov, .ref kv])), (hn, .inr (2, [.ref n1, .ref n2, .int (nI nc), .int (nI gt), .int (nI 400)])), (n1, .inl (cyI, cap, .inl lf)), (n2, .inl (cyI, cap, .inl of)), (ht, .inr (2, [.ref t1, .ref t2, .int (nI tnc), .int (nI tgt), .int (nI 1500)])), (t1, .inl (cyI, tcap, .inl tlf)), (t2, .inl (cyI, tcap, .inl tof)), (iv, .inl (cyI, 64, .inl nf)), (bv, .inl (cyI, 64, .inl bb)), (tv, .inl (cyI, 64, .inl tt)), (vv, .inl (cyI, vc, .inl vl)), (uv, .inl (cyI, vc, .inl tl)), (ov, .inl (cyI, oc, .inl nw)), (kv, .inl (cyI, oc, .inl mk))])) (va_Qi (fun (r : Int32) (u : Unit) => r = lit) (fun (u : Unit) t => xB D (xTy cyI cyJ) sz [(y, .inr (3, [.ref hn, .ref ht, .int (bI (isT = true)), .ref iv, .int (nI ic), .ref bv, .ref tv, .ref vv, .ref uv, .ref ov, .ref kv])), (hn, .inr (2, [.ref n1, .ref n2, .int (nI nc), .int (nI gt), .int (nI 400)])), (n1, .inl (cyI, cap, .inl lf)), (n2, .inl (cyI, cap, .inl of)), (ht, .inr (2, [.ref t1, .ref t2, .int (nI tnc), .int (nI tgt), .int (nI 1500)])), (t1, .inl (cyI, tcap, .inl tlf)), (t2, .inl (cyI, tcap, .inl tof)), (iv, .inl (cyI, 64, .inl nf)), (bv, .inl (cyI, 64, .inl bb)), (tv, .inl (cyI, 64, .inl tt)), (vv, .inl (cyI, vc, .inl vl)), (uv, .inl (cyI, vc, .inl tl)), (ov, .inl (cyI, oc, .inl nw)), (kv, .inl (cyI, oc, .inl mk))] [(y, .inr (3, [.ref hn, .ref ht, .int (bI ((isT && decide (gt = g)) = true)), .ref iv, .int (nI ic), .ref bv, .ref tv, .ref vv, .ref uv, .ref ov, .ref kv])), (hn, .inr (2, [.ref n1, .ref n2, .int (nI nc), .int (nI gt), .int (nI 400)])), (n1, .inl (cyI, cap, .inl lf)), (n2, .inl (cyI, cap, .inl of)), (ht, .inr (2, [.ref t1, .ref t2, .int (nI tnc), .int (nI tgt), .int (nI 1500)])), (t1, .inl (cyI, tcap, .inl tlf)), (t2, .inl (cyI, tcap, .inl tof)), (iv, .inl (cyI, 64, .inl nf)), (bv, .inl (cyI, 64, .inl bb)), (tv, .inl (cyI, 64, .inl tt)), (vv, .inl (cyI, vc, .inl vl)), (uv, .inl (cyI, vc, .inl tl)), (ov, .inl (cyI, oc, .inl nw)), (kv, .inl (cyI, oc, .inl mk))] t) (va_A [(y, .inr (3, [.ref hn, .ref ht, .int (bI (isT = true)), .ref iv, .int (nI ic), .ref bv, .ref tv, .ref vv, .ref uv, .ref ov, .ref kv])), (hn, .inr (2, [.ref n1, .ref n2, .int (nI nc), .int (nI gt), .int (nI 400)])), (n1, .inl (cyI, cap, .inl lf)), (n2, .inl (cyI, cap, .inl of)), (ht, .inr (2, [.ref t1, .ref t2, .int (nI tnc), .int (nI tgt), .int (nI 1500)])), (t1, .inl (cyI, tcap, .inl tlf)), (t2, .inl (cyI, tcap, .inl tof)), (iv, .inl (cyI, 64, .inl nf)), (bv, .inl (cyI, 64, .inl bb)), (tv, .inl (cyI, 64, .inl tt)), (vv, .inl (cyI, vc, .inl vl)), (uv, .inl (cyI, vc, .inl tl)), (ov, .inl (cyI, oc, .inl nw)), (kv, .inl (cyI, oc, .inl mk))] sz)) 0 0 (va_A [(y, .inr (3, [.ref hn, .ref ht, .int (bI (isT = true)), .ref iv, .int (nI ic), .ref bv, .ref tv, .ref vv, .ref uv, .ref ov, .ref kv])), (hn, .inr (2, [.ref n1, .ref n2, .int (nI nc), .int (nI gt), .int (nI 400)])), (n1, .inl (cyI, cap, .inl lf)), (n2, .inl (cyI, cap, .inl of)), (ht, .inr (2, [.ref t1, .ref t2, .int (nI tnc), .int (nI tgt), .int (nI 1500)])), (t1, .inl (cyI, tcap, .inl tlf)), (t2, .inl (cyI, tcap, .inl tof)), (iv, .inl (cyI, 64, .inl nf)), (bv, .inl (cyI, 64, .inl bb)), (tv, .inl (cyI, 64, .inl tt)), (vv, .inl (cyI, vc, .inl vl)), (uv, .inl (cyI, vc, .inl tl)), (ov, .inl (cyI, oc, .inl nw)), (kv, .inl (cyI, oc, .inl mk))] sz) := by
  refine x_met RX3 (by decide) rfl rfl (Nat.le_of_ble_eq_true rfl) ?_
  intro p e s m below meth c A Q hAe hQ hx hb hr hlocks hml hnm hts hown hNN hK hsz hP hD hS hA ls hl
  have wf51 := hts (.fieldLink RX3 51 "NetTwinModel" "isTwin" "Z") (by decide +kernel)
  have hiX3 : ∀ w ∈ u_ws RX3 TX3 11, w ∈ wsX3_made := by decide +kernel
  have wf14 := hts (.fieldLink RX3 14 "NetTwinModel" "net" "LNetTwinModel$Nodes;") (by decide +kernel)
  have wf55 := hts (.fieldLink RX3 55 "NetTwinModel$Nodes" "gates" "I") (by decide +kernel)
  have hiX2 : ∀ w ∈ u_ws RX2 TX2 5, w ∈ wsX3_made := by decide +kernel
  have hP : va_P D vwCl [(y, .inr (3, [.ref hn, .ref ht, .int (bI (isT = true)), .ref iv, .int (nI ic), .ref bv, .ref tv, .ref vv, .ref uv, .ref ov, .ref kv])), (hn, .inr (2, [.ref n1, .ref n2, .int (nI nc), .int (nI gt), .int (nI 400)])), (n1, .inl (cyI, cap, .inl lf)), (n2, .inl (cyI, cap, .inl of)), (ht, .inr (2, [.ref t1, .ref t2, .int (nI tnc), .int (nI tgt), .int (nI 1500)])), (t1, .inl (cyI, tcap, .inl tlf)), (t2, .inl (cyI, tcap, .inl tof)), (iv, .inl (cyI, 64, .inl nf)), (bv, .inl (cyI, 64, .inl bb)), (tv, .inl (cyI, 64, .inl tt)), (vv, .inl (cyI, vc, .inl vl)), (uv, .inl (cyI, vc, .inl tl)), (ov, .inl (cyI, oc, .inl nw)), (kv, .inl (cyI, oc, .inl mk))] s.heap := hP
  have hD : va_D A [(y, .inr (3, [.ref hn, .ref ht, .int (bI (isT = true)), .ref iv, .int (nI ic), .ref bv, .ref tv, .ref vv, .ref uv, .ref ov, .ref kv])), (hn, .inr (2, [.ref n1, .ref n2, .int (nI nc), .int (nI gt), .int (nI 400)])), (n1, .inl (cyI, cap, .inl lf)), (n2, .inl (cyI, cap, .inl of)), (ht, .inr (2, [.ref t1, .ref t2, .int (nI tnc), .int (nI tgt), .int (nI 1500)])), (t1, .inl (cyI, tcap, .inl tlf)), (t2, .inl (cyI, tcap, .inl tof)), (iv, .inl (cyI, 64, .inl nf)), (bv, .inl (cyI, 64, .inl bb)), (tv, .inl (cyI, 64, .inl tt)), (vv, .inl (cyI, vc, .inl vl)), (uv, .inl (cyI, vc, .inl tl)), (ov, .inl (cyI, oc, .inl nw)), (kv, .inl (cyI, oc, .inl mk))] := hD
  have hl : lv_has ls 3 [(0, .ref y), (1, .int (nI g)), (2, .int lit)] := hl
  refine lv_aload_n hx hb dX3_made_0 rfl (lv_at hl 0 rfl) ?_
  refine lv_aload_n hx hb dX3_made_1 rfl (lv_at hl 0 rfl) ?_
  refine va_get (D := D) (ci := 3) (v := .int (bI (isT = true))) (C := RX3) (T := TX3) (N := 11) hx hb hts hiX3 hown hK hP 0 rfl rfl 2 (by decide) wf51 (fun _ h9 => h9) rfl dX3_made_2 ?_
  refine lv_if_eq (tgt := 23) hx hb dX3_made_5 (by decide) (fun c5 => ?_) (fun c5 => ?_)
  · have c5 := bI_0.mp c5
    have hs : ¬ (isT && decide (gt = g)) = true := fun z => c5 (Bool.and_eq_true_iff.mp z).1
    refine lv_iconst (v := nI 0) hx hb dX3_made_23 (by decide) ?_
    refine x_top (show nI 0 = bI ((isT && decide (gt = g)) = true) from bI_fn hs) ?_
    refine va_put (D := D) (ci := 3) (v := .int (bI ((isT && decide (gt = g)) = true))) (ty := .boolean) (C := RX3) (T := TX3) (N := 11) hx hb hts hiX3 tyX3 tyX3_ok nmX3 hown hK hP hD hS 0 rfl rfl 2 (by decide) wf51 (fun _ h9 => h9) rfl (by decide +kernel) bI_z bI_fit (Nat.le_of_ble_eq_true rfl) dX3_made_24 (fun H locs hP hD hS => ?_)
    have hP : va_P D vwCl [(y, .inr (3, [.ref hn, .ref ht, .int (bI ((isT && decide (gt = g)) = true)), .ref iv, .int (nI ic), .ref bv, .ref tv, .ref vv, .ref uv, .ref ov, .ref kv])), (hn, .inr (2, [.ref n1, .ref n2, .int (nI nc), .int (nI gt), .int (nI 400)])), (n1, .inl (cyI, cap, .inl lf)), (n2, .inl (cyI, cap, .inl of)), (ht, .inr (2, [.ref t1, .ref t2, .int (nI tnc), .int (nI tgt), .int (nI 1500)])), (t1, .inl (cyI, tcap, .inl tlf)), (t2, .inl (cyI, tcap, .inl tof)), (iv, .inl (cyI, 64, .inl nf)), (bv, .inl (cyI, 64, .inl bb)), (tv, .inl (cyI, 64, .inl tt)), (vv, .inl (cyI, vc, .inl vl)), (uv, .inl (cyI, vc, .inl tl)), (ov, .inl (cyI, oc, .inl nw)), (kv, .inl (cyI, oc, .inl mk))] H := hP
    have hD : va_D A [(y, .inr (3, [.ref hn, .ref ht, .int (bI ((isT && decide (gt = g)) = true)), .ref iv, .int (nI ic), .ref bv, .ref tv, .ref vv, .ref uv, .ref ov, .ref kv])), (hn, .inr (2, [.ref n1, .ref n2, .int (nI nc), .int (nI gt), .int (nI 400)])), (n1, .inl (cyI, cap, .inl lf)), (n2, .inl (cyI, cap, .inl of)), (ht, .inr (2, [.ref t1, .ref t2, .int (nI tnc), .int (nI tgt), .int (nI 1500)])), (t1, .inl (cyI, tcap, .inl tlf)), (t2, .inl (cyI, tcap, .inl tof)), (iv, .inl (cyI, 64, .inl nf)), (bv, .inl (cyI, 64, .inl bb)), (tv, .inl (cyI, 64, .inl tt)), (vv, .inl (cyI, vc, .inl vl)), (uv, .inl (cyI, vc, .inl tl)), (ov, .inl (cyI, oc, .inl nw)), (kv, .inl (cyI, oc, .inl mk))] := hD
    refine lv_iload_n hx hb dX3_made_27 rfl (lv_at hl 2 rfl) ?_
    exact x_iret hQ hAe hx hb hr hlocks (rfl) hS hK (Nat.le_of_ble_eq_true rfl) (Nat.le_of_ble_eq_true rfl) dX3_made_28 () hP hD (rfl)
  · have c5 := Decidable.not_not.mp (mt bI_0.mpr c5)
    refine lv_aload_n hx hb dX3_made_8 rfl (lv_at hl 0 rfl) ?_
    refine va_get (D := D) (ci := 3) (v := .ref hn) (C := RX3) (T := TX3) (N := 11) hx hb hts hiX3 hown hK hP 0 rfl rfl 0 (by decide) wf14 (fun _ h9 => h9) rfl dX3_made_9 ?_
    refine va_get (D := D) (ci := 2) (v := .int (nI gt)) (C := RX2) (T := TX2) (N := 5) hx hb hts hiX2 hown hK hP 1 rfl rfl 3 (by decide) wf55 (fun _ h9 => h9) rfl dX3_made_12 ?_
    refine lv_iload_n hx hb dX3_made_15 rfl (lv_at hl 1 rfl) ?_
    refine lv_icmp_ne (tgt := 23) hx hb dX3_made_16 (by decide) (fun c16 => ?_) (fun c16 => ?_)
    · have c16 := mt (nI_eq (by omega) (by omega)).mpr c16
      have hs : ¬ (isT && decide (gt = g)) = true := fun z => c16 (of_decide_eq_true (Bool.and_eq_true_iff.mp z).2)
      refine lv_iconst (v := nI 0) hx hb dX3_made_23 (by decide) ?_
      refine x_top (show nI 0 = bI ((isT && decide (gt = g)) = true) from bI_fn hs) ?_
      refine va_put (D := D) (ci := 3) (v := .int (bI ((isT && decide (gt = g)) = true))) (ty := .boolean) (C := RX3) (T := TX3) (N := 11) hx hb hts hiX3 tyX3 tyX3_ok nmX3 hown hK hP hD hS 0 rfl rfl 2 (by decide) wf51 (fun _ h9 => h9) rfl (by decide +kernel) bI_z bI_fit (Nat.le_of_ble_eq_true rfl) dX3_made_24 (fun H locs hP hD hS => ?_)
      have hP : va_P D vwCl [(y, .inr (3, [.ref hn, .ref ht, .int (bI ((isT && decide (gt = g)) = true)), .ref iv, .int (nI ic), .ref bv, .ref tv, .ref vv, .ref uv, .ref ov, .ref kv])), (hn, .inr (2, [.ref n1, .ref n2, .int (nI nc), .int (nI gt), .int (nI 400)])), (n1, .inl (cyI, cap, .inl lf)), (n2, .inl (cyI, cap, .inl of)), (ht, .inr (2, [.ref t1, .ref t2, .int (nI tnc), .int (nI tgt), .int (nI 1500)])), (t1, .inl (cyI, tcap, .inl tlf)), (t2, .inl (cyI, tcap, .inl tof)), (iv, .inl (cyI, 64, .inl nf)), (bv, .inl (cyI, 64, .inl bb)), (tv, .inl (cyI, 64, .inl tt)), (vv, .inl (cyI, vc, .inl vl)), (uv, .inl (cyI, vc, .inl tl)), (ov, .inl (cyI, oc, .inl nw)), (kv, .inl (cyI, oc, .inl mk))] H := hP
      have hD : va_D A [(y, .inr (3, [.ref hn, .ref ht, .int (bI ((isT && decide (gt = g)) = true)), .ref iv, .int (nI ic), .ref bv, .ref tv, .ref vv, .ref uv, .ref ov, .ref kv])), (hn, .inr (2, [.ref n1, .ref n2, .int (nI nc), .int (nI gt), .int (nI 400)])), (n1, .inl (cyI, cap, .inl lf)), (n2, .inl (cyI, cap, .inl of)), (ht, .inr (2, [.ref t1, .ref t2, .int (nI tnc), .int (nI tgt), .int (nI 1500)])), (t1, .inl (cyI, tcap, .inl tlf)), (t2, .inl (cyI, tcap, .inl tof)), (iv, .inl (cyI, 64, .inl nf)), (bv, .inl (cyI, 64, .inl bb)), (tv, .inl (cyI, 64, .inl tt)), (vv, .inl (cyI, vc, .inl vl)), (uv, .inl (cyI, vc, .inl tl)), (ov, .inl (cyI, oc, .inl nw)), (kv, .inl (cyI, oc, .inl mk))] := hD
      refine lv_iload_n hx hb dX3_made_27 rfl (lv_at hl 2 rfl) ?_
      exact x_iret hQ hAe hx hb hr hlocks (rfl) hS hK (Nat.le_of_ble_eq_true rfl) (Nat.le_of_ble_eq_true rfl) dX3_made_28 () hP hD (rfl)
    · have c16 := (nI_eq (by omega) (by omega)).mp c16
      have hs : (isT && decide (gt = g)) = true := Bool.and_eq_true_iff.mpr ⟨c5, decide_eq_true c16⟩
      refine lv_iconst (v := nI 1) hx hb dX3_made_19 (by decide) ?_
      refine lv_goto (tgt := 24) hx hb dX3_made_20 (by decide) ?_
      refine x_top (show nI 1 = bI ((isT && decide (gt = g)) = true) from bI_tn hs) ?_
      refine va_put (D := D) (ci := 3) (v := .int (bI ((isT && decide (gt = g)) = true))) (ty := .boolean) (C := RX3) (T := TX3) (N := 11) hx hb hts hiX3 tyX3 tyX3_ok nmX3 hown hK hP hD hS 0 rfl rfl 2 (by decide) wf51 (fun _ h9 => h9) rfl (by decide +kernel) bI_z bI_fit (Nat.le_of_ble_eq_true rfl) dX3_made_24 (fun H locs hP hD hS => ?_)
      have hP : va_P D vwCl [(y, .inr (3, [.ref hn, .ref ht, .int (bI ((isT && decide (gt = g)) = true)), .ref iv, .int (nI ic), .ref bv, .ref tv, .ref vv, .ref uv, .ref ov, .ref kv])), (hn, .inr (2, [.ref n1, .ref n2, .int (nI nc), .int (nI gt), .int (nI 400)])), (n1, .inl (cyI, cap, .inl lf)), (n2, .inl (cyI, cap, .inl of)), (ht, .inr (2, [.ref t1, .ref t2, .int (nI tnc), .int (nI tgt), .int (nI 1500)])), (t1, .inl (cyI, tcap, .inl tlf)), (t2, .inl (cyI, tcap, .inl tof)), (iv, .inl (cyI, 64, .inl nf)), (bv, .inl (cyI, 64, .inl bb)), (tv, .inl (cyI, 64, .inl tt)), (vv, .inl (cyI, vc, .inl vl)), (uv, .inl (cyI, vc, .inl tl)), (ov, .inl (cyI, oc, .inl nw)), (kv, .inl (cyI, oc, .inl mk))] H := hP
      have hD : va_D A [(y, .inr (3, [.ref hn, .ref ht, .int (bI ((isT && decide (gt = g)) = true)), .ref iv, .int (nI ic), .ref bv, .ref tv, .ref vv, .ref uv, .ref ov, .ref kv])), (hn, .inr (2, [.ref n1, .ref n2, .int (nI nc), .int (nI gt), .int (nI 400)])), (n1, .inl (cyI, cap, .inl lf)), (n2, .inl (cyI, cap, .inl of)), (ht, .inr (2, [.ref t1, .ref t2, .int (nI tnc), .int (nI tgt), .int (nI 1500)])), (t1, .inl (cyI, tcap, .inl tlf)), (t2, .inl (cyI, tcap, .inl tof)), (iv, .inl (cyI, 64, .inl nf)), (bv, .inl (cyI, 64, .inl bb)), (tv, .inl (cyI, 64, .inl tt)), (vv, .inl (cyI, vc, .inl vl)), (uv, .inl (cyI, vc, .inl tl)), (ov, .inl (cyI, oc, .inl nw)), (kv, .inl (cyI, oc, .inl mk))] := hD
      refine lv_iload_n hx hb dX3_made_27 rfl (lv_at hl 2 rfl) ?_
      exact x_iret hQ hAe hx hb hr hlocks (rfl) hS hK (Nat.le_of_ble_eq_true rfl) (Nat.le_of_ble_eq_true rfl) dX3_made_28 () hP hD (rfl)
set_option maxHeartbeats 4000000 in
set_option maxRecDepth 100000 in
theorem c_X3_reckon (lch : Launch) (D : va_G) (cyI cyJ : ClassId) (sz : Nat) (y : Nat) (hn : Nat) (ht : Nat) (iv : Nat) (bv : Nat) (tv : Nat) (vv : Nat) (uv : Nat) (ov : Nat) (kv : Nat) (isT : Bool) (ic : Nat) (oc : Nat) (nw : Nat → Int32) (h : Nat) (a1 : Nat) (a2 : Nat) (cap : Nat) (lf : Nat → Int32) (of : Nat → Int32) (gv : Nat) (M : Nat) (l : NT) (hok : nOK l) (hrp : rpN l lf of) (hcl : l.length ≤ cap) (hco : l.length ≤ oc) (hcb : cap < 10000) (hob : oc < 10000) : Met lch yX3_reckon wsX3_reckon ({ frames := 1, cells := 0, slots := 0, locals := 21 } : Room) (va_Pc [.ref y, .ref h] (xA D (xTy cyI cyJ) sz [(y, .inr (3, [.ref hn, .ref ht, .int (bI (isT = true)), .ref iv, .int (nI ic), .ref bv, .ref tv, .ref vv, .ref uv, .ref ov, .ref kv])), (h, .inr (2, [.ref a1, .ref a2, .int (nI l.length), .int (nI gv), .int (nI M)])), (a1, .inl (cyI, cap, .inl lf)), (a2, .inl (cyI, cap, .inl of)), (ov, .inl (cyI, oc, .inl nw))])) (va_Qv (fun (u : Unit) => True) (fun (u : Unit) t => xB D (xTy cyI cyJ) sz [(y, .inr (3, [.ref hn, .ref ht, .int (bI (isT = true)), .ref iv, .int (nI ic), .ref bv, .ref tv, .ref vv, .ref uv, .ref ov, .ref kv])), (h, .inr (2, [.ref a1, .ref a2, .int (nI l.length), .int (nI gv), .int (nI M)])), (a1, .inl (cyI, cap, .inl lf)), (a2, .inl (cyI, cap, .inl of)), (ov, .inl (cyI, oc, .inl nw))] [(y, .inr (3, [.ref hn, .ref ht, .int (bI (isT = true)), .ref iv, .int (nI ic), .ref bv, .ref tv, .ref vv, .ref uv, .ref ov, .ref kv])), (h, .inr (2, [.ref a1, .ref a2, .int (nI l.length), .int (nI gv), .int (nI M)])), (a1, .inl (cyI, cap, .inl lf)), (a2, .inl (cyI, cap, .inl of)), (ov, .inl (cyI, oc, .inl (rck l nw l.length)))] t) (va_A [(y, .inr (3, [.ref hn, .ref ht, .int (bI (isT = true)), .ref iv, .int (nI ic), .ref bv, .ref tv, .ref vv, .ref uv, .ref ov, .ref kv])), (h, .inr (2, [.ref a1, .ref a2, .int (nI l.length), .int (nI gv), .int (nI M)])), (a1, .inl (cyI, cap, .inl lf)), (a2, .inl (cyI, cap, .inl of)), (ov, .inl (cyI, oc, .inl nw))] sz)) 0 0 (va_A [(y, .inr (3, [.ref hn, .ref ht, .int (bI (isT = true)), .ref iv, .int (nI ic), .ref bv, .ref tv, .ref vv, .ref uv, .ref ov, .ref kv])), (h, .inr (2, [.ref a1, .ref a2, .int (nI l.length), .int (nI gv), .int (nI M)])), (a1, .inl (cyI, cap, .inl lf)), (a2, .inl (cyI, cap, .inl of)), (ov, .inl (cyI, oc, .inl nw))] sz) := by
  refine x_met RX3 (by decide) rfl rfl (Nat.le_of_ble_eq_true rfl) ?_
  intro p e s m below meth c A Q hAe hQ hx hb hr hlocks hml hnm hts hown hNN hK hsz hP hD hS hA ls hl
  have wf78 := hts (.fieldLink RX3 78 "NetTwinModel$Nodes" "count" "I") (by decide +kernel)
  have hiX2 : ∀ w ∈ u_ws RX2 TX2 5, w ∈ wsX3_reckon := by decide +kernel
  have wf37 := hts (.fieldLink RX3 37 "NetTwinModel" "now" "[I") (by decide +kernel)
  have hiX3 : ∀ w ∈ u_ws RX3 TX3 11, w ∈ wsX3_reckon := by decide +kernel
  have wf81 := hts (.fieldLink RX3 81 "NetTwinModel$Nodes" "left" "[I") (by decide +kernel)
  have wf84 := hts (.fieldLink RX3 84 "NetTwinModel$Nodes" "right" "[I") (by decide +kernel)
  have hP : va_P D vwCl [(y, .inr (3, [.ref hn, .ref ht, .int (bI (isT = true)), .ref iv, .int (nI ic), .ref bv, .ref tv, .ref vv, .ref uv, .ref ov, .ref kv])), (h, .inr (2, [.ref a1, .ref a2, .int (nI l.length), .int (nI gv), .int (nI M)])), (a1, .inl (cyI, cap, .inl lf)), (a2, .inl (cyI, cap, .inl of)), (ov, .inl (cyI, oc, .inl nw))] s.heap := hP
  have hD : va_D A [(y, .inr (3, [.ref hn, .ref ht, .int (bI (isT = true)), .ref iv, .int (nI ic), .ref bv, .ref tv, .ref vv, .ref uv, .ref ov, .ref kv])), (h, .inr (2, [.ref a1, .ref a2, .int (nI l.length), .int (nI gv), .int (nI M)])), (a1, .inl (cyI, cap, .inl lf)), (a2, .inl (cyI, cap, .inl of)), (ov, .inl (cyI, oc, .inl nw))] := hD
  have hl : lv_has ls 3 [(0, .ref y), (1, .ref h)] := hl
  have hl0 := hok.1
  refine lv_iconst (v := nI 1) hx hb dX3_reckon_0 (by decide) ?_
  refine lv_istore_n (lv' := [(2, .int (nI 1)), (0, .ref y), (1, .ref h)]) hx hb dX3_reckon_1 rfl hl (by decide) rfl (fun ls hl => ?_)
  have lp2 : ∀ n : Nat, ∀ (k : Nat) (w : Nat → Int32) (hk0 : 1 ≤ k) (hk : k ≤ l.length) (hw : w = rck l nw k) (hme : l.length - k < n) (H : Heap) (locs : List Loc) (ls : Array Slot), va_P D vwCl [(y, .inr (3, [.ref hn, .ref ht, .int (bI (isT = true)), .ref iv, .int (nI ic), .ref bv, .ref tv, .ref vv, .ref uv, .ref ov, .ref kv])), (h, .inr (2, [.ref a1, .ref a2, .int (nI l.length), .int (nI gv), .int (nI M)])), (a1, .inl (cyI, cap, .inl lf)), (a2, .inl (cyI, cap, .inl of)), (ov, .inl (cyI, oc, .inl w))] H → va_D A [(y, .inr (3, [.ref hn, .ref ht, .int (bI (isT = true)), .ref iv, .int (nI ic), .ref bv, .ref tv, .ref vv, .ref uv, .ref ov, .ref kv])), (h, .inr (2, [.ref a1, .ref a2, .int (nI l.length), .int (nI gv), .int (nI M)])), (a1, .inl (cyI, cap, .inl lf)), (a2, .inl (cyI, cap, .inl of)), (ov, .inl (cyI, oc, .inl w))] → va_S A s.heap H locs → lv_has ls 3 [(2, .int (nI k)), (0, .ref y), (1, .ref h)] → W p lch e ({ frames := 1, cells := 0, slots := 0, locals := 21 } : Room) s m ([.ref y, .ref h] : List Value).toArray below meth c H locs 0 0 Q (F0 m 2 ls []) := by
    intro n
    induction n with
    | zero => intro k w hk0 hk hw hme H locs ls hP hD hS hl; exact absurd hme (Nat.not_lt_zero _)
    | succ n ih =>
      intro k w hk0 hk hw hme H locs ls hP hD hS hl
      refine lv_iload_n hx hb dX3_reckon_2 rfl (lv_at hl 0 rfl) ?_
      refine lv_aload_n hx hb dX3_reckon_3 rfl (lv_at hl 2 rfl) ?_
      refine va_get (D := D) (ci := 2) (v := .int (nI l.length)) (C := RX2) (T := TX2) (N := 5) hx hb hts hiX2 hown hK hP 1 rfl rfl 2 (by decide) wf78 (fun _ h9 => h9) rfl dX3_reckon_4 ?_
      refine lv_icmp_ge (tgt := 67) hx hb dX3_reckon_7 (by decide) (fun c7 => ?_) (fun c7 => ?_)
      · have c7 := (nI_leI (by omega) (by omega)).mp c7
        have hkl : k = l.length := by omega
        rw [hkl] at hw
        rw [hw] at hP hD
        exact x_vret hQ hAe hx hb hr hlocks hS hK (Nat.le_of_ble_eq_true rfl) (Nat.le_of_ble_eq_true rfl) dX3_reckon_67 () hP hD (trivial)
      · have c7 := mt (nI_leI (by omega) (by omega)).mpr c7
        refine lv_aload_n hx hb dX3_reckon_10 rfl (lv_at hl 1 rfl) ?_
        refine va_get (D := D) (ci := 3) (v := .ref ov) (C := RX3) (T := TX3) (N := 11) hx hb hts hiX3 hown hK hP 0 rfl rfl 9 (by decide) wf37 (fun _ h9 => h9) rfl dX3_reckon_11 ?_
        refine lv_iload_n hx hb dX3_reckon_14 rfl (lv_at hl 0 rfl) ?_
        refine lv_aload_n hx hb dX3_reckon_15 rfl (lv_at hl 2 rfl) ?_
        refine va_get (D := D) (ci := 2) (v := .ref a1) (C := RX2) (T := TX2) (N := 5) hx hb hts hiX2 hown hK hP 1 rfl rfl 0 (by decide) wf81 (fun _ h9 => h9) rfl dX3_reckon_16 ?_
        refine lv_iload_n hx hb dX3_reckon_19 rfl (lv_at hl 0 rfl) ?_
        refine x_iald hx hb hK hP 2 0 rfl rfl (by omega) (by omega) dX3_reckon_20 ?_
        refine x_top (show lf k = gL (nAt l k) from (hrp k (by omega)).1) ?_
        refine lv_if_ge (tgt := 33) hx hb dX3_reckon_21 (by decide) (fun c21 => ?_) (fun c21 => ?_)
        · obtain ⟨ga, gb, hg2⟩ := gL_pos (g := nAt l k) c21
          have hgk := hok.2.2 k ga gb hg2
          refine lv_aload_n hx hb dX3_reckon_33 rfl (lv_at hl 1 rfl) ?_
          refine va_get (D := D) (ci := 3) (v := .ref ov) (C := RX3) (T := TX3) (N := 11) hx hb hts hiX3 hown hK hP 0 rfl rfl 9 (by decide) wf37 (fun _ h9 => h9) rfl dX3_reckon_34 ?_
          refine lv_aload_n hx hb dX3_reckon_37 rfl (lv_at hl 2 rfl) ?_
          refine va_get (D := D) (ci := 2) (v := .ref a1) (C := RX2) (T := TX2) (N := 5) hx hb hts hiX2 hown hK hP 1 rfl rfl 0 (by decide) wf81 (fun _ h9 => h9) rfl dX3_reckon_38 ?_
          refine lv_iload_n hx hb dX3_reckon_41 rfl (lv_at hl 0 rfl) ?_
          refine x_iald hx hb hK hP 2 0 rfl rfl (by omega) (by omega) dX3_reckon_42 ?_
          refine x_top (show lf k = nI ga from by rw [(hrp k (by omega)).1, hg2]; rfl) ?_
          refine x_calli (wc := [(ov, .inl (cyI, oc, .inl w))]) (wr := [(y, .inr (3, [.ref hn, .ref ht, .int (bI (isT = true)), .ref iv, .int (nI ic), .ref bv, .ref tv, .ref vv, .ref uv, .ref ov, .ref kv])), (h, .inr (2, [.ref a1, .ref a2, .int (nI l.length), .int (nI gv), .int (nI M)])), (a1, .inl (cyI, cap, .inl lf)), (a2, .inl (cyI, cap, .inl of))]) (w2 := fun (u : Unit) => [(y, .inr (3, [.ref hn, .ref ht, .int (bI (isT = true)), .ref iv, .int (nI ic), .ref bv, .ref tv, .ref vv, .ref uv, .ref ov, .ref kv])), (h, .inr (2, [.ref a1, .ref a2, .int (nI l.length), .int (nI gv), .int (nI M)])), (a1, .inl (cyI, cap, .inl lf)), (a2, .inl (cyI, cap, .inl of)), (ov, .inl (cyI, oc, .inl w))]) [4] [0, 1, 2, 3] [0, 1, 2, 3, 4] (va_runS (As := [.ref ov, .int (nI ga)]) (rest := [.int (nI k), .ref ov]) ⟨hx, hb, hml, hown, hts⟩ (c_X3_of lch D cyI cyJ _ ov oc w ga (by first | assumption | omega) (by first | assumption | omega)) (va_cwS 2 hts gX3_reckon_X3_of rfl rfl rfl (by decide +kernel) ⟨Nat.le_of_ble_eq_true rfl, Nat.le_of_ble_eq_true rfl⟩) (x_pre hK hNN (hP.sub (ws' := [(ov, .inl (cyI, oc, .inl w))]) [4] rfl) (hD.sub (ws' := [(ov, .inl (cyI, oc, .inl w))]) [4] (by decide) rfl) rfl rfl) rfl rfl hl.1 rfl (lv_room (Nat.le_of_ble_eq_true rfl)) dX3_reckon_43 ⟨Nat.le_of_ble_eq_true rfl, Nat.le_of_ble_eq_true rfl⟩) rfl hP hD hS hA rfl rfl (by decide) (by decide) (fun _ => rfl) (by decide) (fun r43 u43 H locs hw43 hP hD hS hz43 => ?_)
          have hP : va_P D vwCl [(y, .inr (3, [.ref hn, .ref ht, .int (bI (isT = true)), .ref iv, .int (nI ic), .ref bv, .ref tv, .ref vv, .ref uv, .ref ov, .ref kv])), (h, .inr (2, [.ref a1, .ref a2, .int (nI l.length), .int (nI gv), .int (nI M)])), (a1, .inl (cyI, cap, .inl lf)), (a2, .inl (cyI, cap, .inl of)), (ov, .inl (cyI, oc, .inl w))] H := hP
          have hD : va_D A [(y, .inr (3, [.ref hn, .ref ht, .int (bI (isT = true)), .ref iv, .int (nI ic), .ref bv, .ref tv, .ref vv, .ref uv, .ref ov, .ref kv])), (h, .inr (2, [.ref a1, .ref a2, .int (nI l.length), .int (nI gv), .int (nI M)])), (a1, .inl (cyI, cap, .inl lf)), (a2, .inl (cyI, cap, .inl of)), (ov, .inl (cyI, oc, .inl w))] := hD
          have hw43 : r43 = ofI w ga := hw43
          subst hw43
          refine W.widen (k := 0) (n := 0) (Nat.le_refl _) (Nat.le_refl _) ?_
          refine lv_aload_n hx hb dX3_reckon_46 rfl (lv_at hl 1 rfl) ?_
          refine va_get (D := D) (ci := 3) (v := .ref ov) (C := RX3) (T := TX3) (N := 11) hx hb hts hiX3 hown hK hP 0 rfl rfl 9 (by decide) wf37 (fun _ h9 => h9) rfl dX3_reckon_47 ?_
          refine lv_aload_n hx hb dX3_reckon_50 rfl (lv_at hl 2 rfl) ?_
          refine va_get (D := D) (ci := 2) (v := .ref a2) (C := RX2) (T := TX2) (N := 5) hx hb hts hiX2 hown hK hP 1 rfl rfl 1 (by decide) wf84 (fun _ h9 => h9) rfl dX3_reckon_51 ?_
          refine lv_iload_n hx hb dX3_reckon_54 rfl (lv_at hl 0 rfl) ?_
          refine x_iald hx hb hK hP 3 0 rfl rfl (by omega) (by omega) dX3_reckon_55 ?_
          refine x_top (show of k = nI gb from by rw [(hrp k (by omega)).2, hg2]; rfl) ?_
          refine x_calli (wc := [(ov, .inl (cyI, oc, .inl w))]) (wr := [(y, .inr (3, [.ref hn, .ref ht, .int (bI (isT = true)), .ref iv, .int (nI ic), .ref bv, .ref tv, .ref vv, .ref uv, .ref ov, .ref kv])), (h, .inr (2, [.ref a1, .ref a2, .int (nI l.length), .int (nI gv), .int (nI M)])), (a1, .inl (cyI, cap, .inl lf)), (a2, .inl (cyI, cap, .inl of))]) (w2 := fun (u : Unit) => [(y, .inr (3, [.ref hn, .ref ht, .int (bI (isT = true)), .ref iv, .int (nI ic), .ref bv, .ref tv, .ref vv, .ref uv, .ref ov, .ref kv])), (h, .inr (2, [.ref a1, .ref a2, .int (nI l.length), .int (nI gv), .int (nI M)])), (a1, .inl (cyI, cap, .inl lf)), (a2, .inl (cyI, cap, .inl of)), (ov, .inl (cyI, oc, .inl w))]) [4] [0, 1, 2, 3] [0, 1, 2, 3, 4] (va_runS (As := [.ref ov, .int (nI gb)]) (rest := [.int (ofI w ga), .int (nI k), .ref ov]) ⟨hx, hb, hml, hown, hts⟩ (c_X3_of lch D cyI cyJ _ ov oc w gb (by first | assumption | omega) (by first | assumption | omega)) (va_cwS 2 hts gX3_reckon_X3_of rfl rfl rfl (by decide +kernel) ⟨Nat.le_of_ble_eq_true rfl, Nat.le_of_ble_eq_true rfl⟩) (x_pre hK hNN (hP.sub (ws' := [(ov, .inl (cyI, oc, .inl w))]) [4] rfl) (hD.sub (ws' := [(ov, .inl (cyI, oc, .inl w))]) [4] (by decide) rfl) rfl rfl) rfl rfl hl.1 rfl (lv_room (Nat.le_of_ble_eq_true rfl)) dX3_reckon_56 ⟨Nat.le_of_ble_eq_true rfl, Nat.le_of_ble_eq_true rfl⟩) rfl hP hD hS hA rfl rfl (by decide) (by decide) (fun _ => rfl) (by decide) (fun r56 u56 H locs hw56 hP hD hS hz56 => ?_)
          have hP : va_P D vwCl [(y, .inr (3, [.ref hn, .ref ht, .int (bI (isT = true)), .ref iv, .int (nI ic), .ref bv, .ref tv, .ref vv, .ref uv, .ref ov, .ref kv])), (h, .inr (2, [.ref a1, .ref a2, .int (nI l.length), .int (nI gv), .int (nI M)])), (a1, .inl (cyI, cap, .inl lf)), (a2, .inl (cyI, cap, .inl of)), (ov, .inl (cyI, oc, .inl w))] H := hP
          have hD : va_D A [(y, .inr (3, [.ref hn, .ref ht, .int (bI (isT = true)), .ref iv, .int (nI ic), .ref bv, .ref tv, .ref vv, .ref uv, .ref ov, .ref kv])), (h, .inr (2, [.ref a1, .ref a2, .int (nI l.length), .int (nI gv), .int (nI M)])), (a1, .inl (cyI, cap, .inl lf)), (a2, .inl (cyI, cap, .inl of)), (ov, .inl (cyI, oc, .inl w))] := hD
          have hw56 : r56 = ofI w gb := hw56
          subst hw56
          refine W.widen (k := 0) (n := 0) (Nat.le_refl _) (Nat.le_refl _) ?_
          refine lv_imul hx hb dX3_reckon_59 ?_
          refine x_iast hx hb hK hP hD hS 4 0 rfl rfl (by omega) (by omega) dX3_reckon_60 (fun H locs hP hD hS => ?_)
          have hP : va_P D vwCl [(y, .inr (3, [.ref hn, .ref ht, .int (bI (isT = true)), .ref iv, .int (nI ic), .ref bv, .ref tv, .ref vv, .ref uv, .ref ov, .ref kv])), (h, .inr (2, [.ref a1, .ref a2, .int (nI l.length), .int (nI gv), .int (nI M)])), (a1, .inl (cyI, cap, .inl lf)), (a2, .inl (cyI, cap, .inl of)), (ov, .inl (cyI, oc, .inl (upd w k ((ofI w ga) * (ofI w gb)))))] H := hP
          have hD : va_D A [(y, .inr (3, [.ref hn, .ref ht, .int (bI (isT = true)), .ref iv, .int (nI ic), .ref bv, .ref tv, .ref vv, .ref uv, .ref ov, .ref kv])), (h, .inr (2, [.ref a1, .ref a2, .int (nI l.length), .int (nI gv), .int (nI M)])), (a1, .inl (cyI, cap, .inl lf)), (a2, .inl (cyI, cap, .inl of)), (ov, .inl (cyI, oc, .inl (upd w k ((ofI w ga) * (ofI w gb)))))] := hD
          refine lv_iinc (v := nI (k + 1)) (lv' := [(2, .int (nI (k + 1))), (0, .ref y), (1, .ref h)]) hx hb dX3_reckon_61 hl (k := 0) rfl (n_inc _) (by decide) rfl (fun ls hl => ?_)
          refine lv_goto (tgt := 2) hx hb dX3_reckon_64 (by decide) ?_
          exact ih (k + 1) (upd w k (ofI w ga * ofI w gb)) (by omega) (by omega) (by rw [rck_g hg2, ← hw]) (by omega) _ _ _ hP hD hS (lv_sub hl [0, 1, 2] rfl)
        · have hz : nAt l k = none := gL_negt hok (by omega) c21
          refine lv_aload_n hx hb dX3_reckon_24 rfl (lv_at hl 1 rfl) ?_
          refine va_get (D := D) (ci := 3) (v := .ref ov) (C := RX3) (T := TX3) (N := 11) hx hb hts hiX3 hown hK hP 0 rfl rfl 9 (by decide) wf37 (fun _ h9 => h9) rfl dX3_reckon_25 ?_
          refine lv_iload_n hx hb dX3_reckon_28 rfl (lv_at hl 0 rfl) ?_
          refine x_iald hx hb hK hP 4 0 rfl rfl (by omega) (by omega) dX3_reckon_29 ?_
          refine lv_goto (tgt := 60) hx hb dX3_reckon_30 (by decide) ?_
          refine x_iast hx hb hK hP hD hS 4 0 rfl rfl (by omega) (by omega) dX3_reckon_60 (fun H locs hP hD hS => ?_)
          have hP : va_P D vwCl [(y, .inr (3, [.ref hn, .ref ht, .int (bI (isT = true)), .ref iv, .int (nI ic), .ref bv, .ref tv, .ref vv, .ref uv, .ref ov, .ref kv])), (h, .inr (2, [.ref a1, .ref a2, .int (nI l.length), .int (nI gv), .int (nI M)])), (a1, .inl (cyI, cap, .inl lf)), (a2, .inl (cyI, cap, .inl of)), (ov, .inl (cyI, oc, .inl (upd w k (w k))))] H := hP
          have hD : va_D A [(y, .inr (3, [.ref hn, .ref ht, .int (bI (isT = true)), .ref iv, .int (nI ic), .ref bv, .ref tv, .ref vv, .ref uv, .ref ov, .ref kv])), (h, .inr (2, [.ref a1, .ref a2, .int (nI l.length), .int (nI gv), .int (nI M)])), (a1, .inl (cyI, cap, .inl lf)), (a2, .inl (cyI, cap, .inl of)), (ov, .inl (cyI, oc, .inl (upd w k (w k))))] := hD
          refine lv_iinc (v := nI (k + 1)) (lv' := [(2, .int (nI (k + 1))), (0, .ref y), (1, .ref h)]) hx hb dX3_reckon_61 hl (k := 0) rfl (n_inc _) (by decide) rfl (fun ls hl => ?_)
          refine lv_goto (tgt := 2) hx hb dX3_reckon_64 (by decide) ?_
          exact ih (k + 1) (upd w k (w k)) (by omega) (by omega) (by rw [upd_self, rck_n hz]; exact hw) (by omega) _ _ _ hP hD hS (lv_sub hl [0, 1, 2] rfl)
  exact lp2 _ 1 nw (Nat.le_refl _) hl0 (rck_n hok.2.1).symm (Nat.lt_succ_self _) _ _ _ hP hD hS (lv_sub hl [0, 1, 2] rfl)
set_option maxHeartbeats 4000000 in
set_option maxRecDepth 100000 in
theorem c_X3_room (lch : Launch) (D : va_G) (cyI cyJ : ClassId) (sz : Nat) (y : Nat) (hn : Nat) (ht : Nat) (iv : Nat) (bv : Nat) (tv : Nat) (vv : Nat) (uv : Nat) (ov : Nat) (kv : Nat) (isT : Bool) (ic : Nat) (oc : Nat) (nw : Nat → Int32) (mk : Nat → Int32) (sz0 : Nat) (hoc : okc oc) (hnn : sz0 ≤ 2048) : Met lch yX3_room wsX3_room ({ frames := 2, cells := 256, slots := 8192, locals := 61 } : Room) (va_Pc [.ref y, .int (nI sz0)] (xA D (xTy cyI cyJ) sz [(y, .inr (3, [.ref hn, .ref ht, .int (bI (isT = true)), .ref iv, .int (nI ic), .ref bv, .ref tv, .ref vv, .ref uv, .ref ov, .ref kv])), (ov, .inl (cyI, oc, .inl nw)), (kv, .inl (cyI, oc, .inl mk))])) (va_Qv (fun (u : Nat × Nat × Nat × (Nat → Int32) × (Nat → Int32)) => okc u.2.2.1 ∧ sz0 ≤ u.2.2.1 ∧ u.2.2.2.1 0 = 0 ∧ u.2.2.2.2 0 = 0) (fun (u : Nat × Nat × Nat × (Nat → Int32) × (Nat → Int32)) t => xB D (xTy cyI cyJ) sz [(y, .inr (3, [.ref hn, .ref ht, .int (bI (isT = true)), .ref iv, .int (nI ic), .ref bv, .ref tv, .ref vv, .ref uv, .ref ov, .ref kv])), (ov, .inl (cyI, oc, .inl nw)), (kv, .inl (cyI, oc, .inl mk))] [(y, .inr (3, [.ref hn, .ref ht, .int (bI (isT = true)), .ref iv, .int (nI ic), .ref bv, .ref tv, .ref vv, .ref uv, .ref u.1, .ref u.2.1])), (u.1, .inl (cyI, u.2.2.1, .inl u.2.2.2.1)), (u.2.1, .inl (cyI, u.2.2.1, .inl u.2.2.2.2))] t) (va_A [(y, .inr (3, [.ref hn, .ref ht, .int (bI (isT = true)), .ref iv, .int (nI ic), .ref bv, .ref tv, .ref vv, .ref uv, .ref ov, .ref kv])), (ov, .inl (cyI, oc, .inl nw)), (kv, .inl (cyI, oc, .inl mk))] sz)) 256 8192 (va_A [(y, .inr (3, [.ref hn, .ref ht, .int (bI (isT = true)), .ref iv, .int (nI ic), .ref bv, .ref tv, .ref vv, .ref uv, .ref ov, .ref kv])), (ov, .inl (cyI, oc, .inl nw)), (kv, .inl (cyI, oc, .inl mk))] sz) := by
  refine x_met RX3 (by decide) rfl rfl (Nat.le_of_ble_eq_true rfl) ?_
  intro p e s m below meth c A Q hAe hQ hx hb hr hlocks hml hnm hts hown hNN hK hsz hP hD hS hA ls hl
  have wf37 := hts (.fieldLink RX3 37 "NetTwinModel" "now" "[I") (by decide +kernel)
  have hiX3 : ∀ w ∈ u_ws RX3 TX3 11, w ∈ wsX3_room := by decide +kernel
  have wf40 := hts (.fieldLink RX3 40 "NetTwinModel" "marks" "[I") (by decide +kernel)
  have wzX2 := hts (.initialized RX2) (by decide +kernel)
  have ws_yX2_more := hts (.static yX2_more) (by decide +kernel)
  have hP : va_P D vwCl [(y, .inr (3, [.ref hn, .ref ht, .int (bI (isT = true)), .ref iv, .int (nI ic), .ref bv, .ref tv, .ref vv, .ref uv, .ref ov, .ref kv])), (ov, .inl (cyI, oc, .inl nw)), (kv, .inl (cyI, oc, .inl mk))] s.heap := hP
  have hD : va_D A [(y, .inr (3, [.ref hn, .ref ht, .int (bI (isT = true)), .ref iv, .int (nI ic), .ref bv, .ref tv, .ref vv, .ref uv, .ref ov, .ref kv])), (ov, .inl (cyI, oc, .inl nw)), (kv, .inl (cyI, oc, .inl mk))] := hD
  have hl : lv_has ls 2 [(0, .ref y), (1, .int (nI sz0))] := hl
  have lp0 : ∀ n : Nat, ∀ (p1 : Nat) (p2 : Nat) (c0 : Nat) (f1 : Nat → Int32) (f2 : Nat → Int32) (cc : Nat) (ss : Nat) (h0 : okc c0) (hcc : 8 * cc ≤ c0) (hss : ss ≤ 4 * c0) (hme : 2048 - c0 < n) (H : Heap) (locs : List Loc) (ls : Array Slot), va_P D vwCl [(y, .inr (3, [.ref hn, .ref ht, .int (bI (isT = true)), .ref iv, .int (nI ic), .ref bv, .ref tv, .ref vv, .ref uv, .ref p1, .ref p2])), (p1, .inl (cyI, c0, .inl f1)), (p2, .inl (cyI, c0, .inl f2))] H → va_D A [(y, .inr (3, [.ref hn, .ref ht, .int (bI (isT = true)), .ref iv, .int (nI ic), .ref bv, .ref tv, .ref vv, .ref uv, .ref p1, .ref p2])), (p1, .inl (cyI, c0, .inl f1)), (p2, .inl (cyI, c0, .inl f2))] → va_S A s.heap H locs → lv_has ls 2 [(0, .ref y), (1, .int (nI sz0))] → W p lch e ({ frames := 2, cells := 256, slots := 8192, locals := 61 } : Room) s m ([.ref y, .int (nI sz0)] : List Value).toArray below meth c H locs cc ss Q (F0 m 0 ls []) := by
    intro n
    induction n with
    | zero => intro p1 p2 c0 f1 f2 cc ss h0 hcc hss hme H locs ls hP hD hS hl; exact absurd hme (Nat.not_lt_zero _)
    | succ n ih =>
      intro p1 p2 c0 f1 f2 cc ss h0 hcc hss hme H locs ls hP hD hS hl
      refine lv_aload_n hx hb dX3_room_0 rfl (lv_at hl 0 rfl) ?_
      refine va_get (D := D) (ci := 3) (v := .ref p1) (C := RX3) (T := TX3) (N := 11) hx hb hts hiX3 hown hK hP 0 rfl rfl 9 (by decide) wf37 (fun _ h9 => h9) rfl dX3_room_1 ?_
      refine va_alen hx hb hK hP 1 0 rfl rfl (v := nI c0) rfl dX3_room_4 ?_
      refine lv_iload_n hx hb dX3_room_5 rfl (lv_at hl 1 rfl) ?_
      have h16 := okc_16 h0
      refine lv_icmp_ge (tgt := 34) hx hb dX3_room_6 (by decide) (fun c6 => ?_) (fun c6 => ?_)
      · have c6 := (nI_leI (by omega) (by omega)).mp c6
        refine lv_aload_n hx hb dX3_room_34 rfl (lv_at hl 0 rfl) ?_
        refine va_get (D := D) (ci := 3) (v := .ref p1) (C := RX3) (T := TX3) (N := 11) hx hb hts hiX3 hown hK hP 0 rfl rfl 9 (by decide) wf37 (fun _ h9 => h9) rfl dX3_room_35 ?_
        refine lv_iconst (v := nI 0) hx hb dX3_room_38 (by decide) ?_
        refine lv_iconst (v := nI 0) hx hb dX3_room_39 (by decide) ?_
        refine x_iast hx hb hK hP hD hS 1 0 rfl rfl (by omega) (by omega) dX3_room_40 (fun H locs hP hD hS => ?_)
        have hP : va_P D vwCl [(y, .inr (3, [.ref hn, .ref ht, .int (bI (isT = true)), .ref iv, .int (nI ic), .ref bv, .ref tv, .ref vv, .ref uv, .ref p1, .ref p2])), (p1, .inl (cyI, c0, .inl (upd f1 0 (nI 0)))), (p2, .inl (cyI, c0, .inl f2))] H := hP
        have hD : va_D A [(y, .inr (3, [.ref hn, .ref ht, .int (bI (isT = true)), .ref iv, .int (nI ic), .ref bv, .ref tv, .ref vv, .ref uv, .ref p1, .ref p2])), (p1, .inl (cyI, c0, .inl (upd f1 0 (nI 0)))), (p2, .inl (cyI, c0, .inl f2))] := hD
        refine lv_aload_n hx hb dX3_room_41 rfl (lv_at hl 0 rfl) ?_
        refine va_get (D := D) (ci := 3) (v := .ref p2) (C := RX3) (T := TX3) (N := 11) hx hb hts hiX3 hown hK hP 0 rfl rfl 10 (by decide) wf40 (fun _ h9 => h9) rfl dX3_room_42 ?_
        refine lv_iconst (v := nI 0) hx hb dX3_room_45 (by decide) ?_
        refine lv_iconst (v := nI 0) hx hb dX3_room_46 (by decide) ?_
        refine x_iast hx hb hK hP hD hS 2 0 rfl rfl (by omega) (by omega) dX3_room_47 (fun H locs hP hD hS => ?_)
        have hP : va_P D vwCl [(y, .inr (3, [.ref hn, .ref ht, .int (bI (isT = true)), .ref iv, .int (nI ic), .ref bv, .ref tv, .ref vv, .ref uv, .ref p1, .ref p2])), (p1, .inl (cyI, c0, .inl (upd f1 0 (nI 0)))), (p2, .inl (cyI, c0, .inl (upd f2 0 (nI 0))))] H := hP
        have hD : va_D A [(y, .inr (3, [.ref hn, .ref ht, .int (bI (isT = true)), .ref iv, .int (nI ic), .ref bv, .ref tv, .ref vv, .ref uv, .ref p1, .ref p2])), (p1, .inl (cyI, c0, .inl (upd f1 0 (nI 0)))), (p2, .inl (cyI, c0, .inl (upd f2 0 (nI 0))))] := hD
        exact x_vret hQ hAe hx hb hr hlocks hS hK (by omega) (by omega) dX3_room_48 (p1, p2, c0, upd f1 0 (nI 0), upd f2 0 (nI 0)) hP hD (⟨h0, by omega, (show upd f1 0 (nI 0) 0 = 0 from pk_us.trans nI_0), (show upd f2 0 (nI 0) 0 = 0 from pk_us.trans nI_0)⟩)
      · have c6 := mt (nI_leI (by omega) (by omega)).mpr c6
        have h1k := (okc_16 (okc_2 h0 (by omega))).2
        refine lv_aload_n hx hb dX3_room_9 rfl (lv_at hl 0 rfl) ?_
        refine lv_aload_n hx hb dX3_room_10 rfl (lv_at hl 0 rfl) ?_
        refine va_get (D := D) (ci := 3) (v := .ref p1) (C := RX3) (T := TX3) (N := 11) hx hb hts hiX3 hown hK hP 0 rfl rfl 9 (by decide) wf37 (fun _ h9 => h9) rfl dX3_room_11 ?_
        refine x_callr (wc := [(p1, .inl (cyI, c0, .inl f1))]) (wr := [(y, .inr (3, [.ref hn, .ref ht, .int (bI (isT = true)), .ref iv, .int (nI ic), .ref bv, .ref tv, .ref vv, .ref uv, .ref p1, .ref p2])), (p2, .inl (cyI, c0, .inl f2))]) (w2 := fun (u : Unit) (ra : Nat) => [(y, .inr (3, [.ref hn, .ref ht, .int (bI (isT = true)), .ref iv, .int (nI ic), .ref bv, .ref tv, .ref vv, .ref uv, .ref p1, .ref p2])), (p1, .inl (cyI, c0, .inl f1)), (p2, .inl (cyI, c0, .inl f2)), (ra, .inl (cyI, (2 * c0), .inl (mor f1 c0)))]) [1] [0, 2] [0, 2, 1, 3] (va_runSN (As := [.ref p1]) (rest := [.ref y]) ⟨hx, hb, hml, hown, hts⟩ (c_X2_more lch D cyI cyJ _ p1 c0 f1 (by omega)) ⟨va_cnB 1 hts gX3_room_X2_more_n94 rfl rfl rfl (hNN.at (.methodLinkNest "NetTwinModel" 94 yX2_more "NetTwinModel") (by decide +kernel)) wzX2 (by decide +kernel) ⟨Nat.le_of_ble_eq_true rfl, Nat.le_of_ble_eq_true rfl⟩, ws_yX2_more, trivial⟩ (x_pre hK hNN (hP.sub (ws' := [(p1, .inl (cyI, c0, .inl f1))]) [1] rfl) (hD.sub (ws' := [(p1, .inl (cyI, c0, .inl f1))]) [1] (by decide) rfl) rfl rfl) rfl rfl hl.1 rfl (lv_room (Nat.le_of_ble_eq_true rfl)) dX3_room_14 ⟨by dsimp only; omega, by dsimp only; omega⟩) rfl hP hD hS hA rfl rfl (by decide) (by decide) (fun _ _ => rfl) (by decide) (fun u14 ra14 H locs hw14 hP hD hS hz14 => ?_)
        have hP : va_P D vwCl [(y, .inr (3, [.ref hn, .ref ht, .int (bI (isT = true)), .ref iv, .int (nI ic), .ref bv, .ref tv, .ref vv, .ref uv, .ref p1, .ref p2])), (p1, .inl (cyI, c0, .inl f1)), (p2, .inl (cyI, c0, .inl f2)), (ra14, .inl (cyI, (2 * c0), .inl (mor f1 c0)))] H := hP
        have hD : va_D A [(y, .inr (3, [.ref hn, .ref ht, .int (bI (isT = true)), .ref iv, .int (nI ic), .ref bv, .ref tv, .ref vv, .ref uv, .ref p1, .ref p2])), (p1, .inl (cyI, c0, .inl f1)), (p2, .inl (cyI, c0, .inl f2)), (ra14, .inl (cyI, (2 * c0), .inl (mor f1 c0)))] := hD
        refine va_put (D := D) (ci := 3) (v := .ref ra14) (ty := .array .int) (C := RX3) (T := TX3) (N := 11) hx hb hts hiX3 tyX3 tyX3_ok nmX3 hown hK hP hD hS 0 rfl rfl 9 (by decide) wf37 (fun _ h9 => h9) rfl (by decide +kernel) rfl rfl (Nat.le_of_ble_eq_true rfl) dX3_room_17 (fun H locs hP hD hS => ?_)
        have hP : va_P D vwCl [(y, .inr (3, [.ref hn, .ref ht, .int (bI (isT = true)), .ref iv, .int (nI ic), .ref bv, .ref tv, .ref vv, .ref uv, .ref ra14, .ref p2])), (p1, .inl (cyI, c0, .inl f1)), (p2, .inl (cyI, c0, .inl f2)), (ra14, .inl (cyI, (2 * c0), .inl (mor f1 c0)))] H := hP
        have hD : va_D A [(y, .inr (3, [.ref hn, .ref ht, .int (bI (isT = true)), .ref iv, .int (nI ic), .ref bv, .ref tv, .ref vv, .ref uv, .ref ra14, .ref p2])), (p1, .inl (cyI, c0, .inl f1)), (p2, .inl (cyI, c0, .inl f2)), (ra14, .inl (cyI, (2 * c0), .inl (mor f1 c0)))] := hD
        refine lv_aload_n hx hb dX3_room_20 rfl (lv_at hl 0 rfl) ?_
        refine lv_aload_n hx hb dX3_room_21 rfl (lv_at hl 0 rfl) ?_
        refine va_get (D := D) (ci := 3) (v := .ref p2) (C := RX3) (T := TX3) (N := 11) hx hb hts hiX3 hown hK hP 0 rfl rfl 10 (by decide) wf40 (fun _ h9 => h9) rfl dX3_room_22 ?_
        refine x_callr (wc := [(p2, .inl (cyI, c0, .inl f2))]) (wr := [(y, .inr (3, [.ref hn, .ref ht, .int (bI (isT = true)), .ref iv, .int (nI ic), .ref bv, .ref tv, .ref vv, .ref uv, .ref ra14, .ref p2])), (p1, .inl (cyI, c0, .inl f1)), (ra14, .inl (cyI, (2 * c0), .inl (mor f1 c0)))]) (w2 := fun (u : Unit) (ra : Nat) => [(y, .inr (3, [.ref hn, .ref ht, .int (bI (isT = true)), .ref iv, .int (nI ic), .ref bv, .ref tv, .ref vv, .ref uv, .ref ra14, .ref p2])), (p1, .inl (cyI, c0, .inl f1)), (p2, .inl (cyI, c0, .inl f2)), (ra14, .inl (cyI, (2 * c0), .inl (mor f1 c0))), (ra, .inl (cyI, (2 * c0), .inl (mor f2 c0)))]) [2] [0, 1, 3] [0, 1, 3, 2, 4] (va_runSN (As := [.ref p2]) (rest := [.ref y]) ⟨hx, hb, hml, hown, hts⟩ (c_X2_more lch D cyI cyJ _ p2 c0 f2 (by omega)) ⟨va_cnB 1 hts gX3_room_X2_more_n94 rfl rfl rfl (hNN.at (.methodLinkNest "NetTwinModel" 94 yX2_more "NetTwinModel") (by decide +kernel)) wzX2 (by decide +kernel) ⟨Nat.le_of_ble_eq_true rfl, Nat.le_of_ble_eq_true rfl⟩, ws_yX2_more, trivial⟩ (x_pre hK hNN (hP.sub (ws' := [(p2, .inl (cyI, c0, .inl f2))]) [2] rfl) (hD.sub (ws' := [(p2, .inl (cyI, c0, .inl f2))]) [2] (by decide) rfl) rfl rfl) rfl rfl hl.1 rfl (lv_room (Nat.le_of_ble_eq_true rfl)) dX3_room_25 ⟨by dsimp only; omega, by dsimp only; omega⟩) rfl hP hD hS hA rfl rfl (by decide) (by decide) (fun _ _ => rfl) (by decide) (fun u25 ra25 H locs hw25 hP hD hS hz25 => ?_)
        have hP : va_P D vwCl [(y, .inr (3, [.ref hn, .ref ht, .int (bI (isT = true)), .ref iv, .int (nI ic), .ref bv, .ref tv, .ref vv, .ref uv, .ref ra14, .ref p2])), (p1, .inl (cyI, c0, .inl f1)), (p2, .inl (cyI, c0, .inl f2)), (ra14, .inl (cyI, (2 * c0), .inl (mor f1 c0))), (ra25, .inl (cyI, (2 * c0), .inl (mor f2 c0)))] H := hP
        have hD : va_D A [(y, .inr (3, [.ref hn, .ref ht, .int (bI (isT = true)), .ref iv, .int (nI ic), .ref bv, .ref tv, .ref vv, .ref uv, .ref ra14, .ref p2])), (p1, .inl (cyI, c0, .inl f1)), (p2, .inl (cyI, c0, .inl f2)), (ra14, .inl (cyI, (2 * c0), .inl (mor f1 c0))), (ra25, .inl (cyI, (2 * c0), .inl (mor f2 c0)))] := hD
        refine va_put (D := D) (ci := 3) (v := .ref ra25) (ty := .array .int) (C := RX3) (T := TX3) (N := 11) hx hb hts hiX3 tyX3 tyX3_ok nmX3 hown hK hP hD hS 0 rfl rfl 10 (by decide) wf40 (fun _ h9 => h9) rfl (by decide +kernel) rfl rfl (Nat.le_of_ble_eq_true rfl) dX3_room_28 (fun H locs hP hD hS => ?_)
        have hP : va_P D vwCl [(y, .inr (3, [.ref hn, .ref ht, .int (bI (isT = true)), .ref iv, .int (nI ic), .ref bv, .ref tv, .ref vv, .ref uv, .ref ra14, .ref ra25])), (p1, .inl (cyI, c0, .inl f1)), (p2, .inl (cyI, c0, .inl f2)), (ra14, .inl (cyI, (2 * c0), .inl (mor f1 c0))), (ra25, .inl (cyI, (2 * c0), .inl (mor f2 c0)))] H := hP
        have hD : va_D A [(y, .inr (3, [.ref hn, .ref ht, .int (bI (isT = true)), .ref iv, .int (nI ic), .ref bv, .ref tv, .ref vv, .ref uv, .ref ra14, .ref ra25])), (p1, .inl (cyI, c0, .inl f1)), (p2, .inl (cyI, c0, .inl f2)), (ra14, .inl (cyI, (2 * c0), .inl (mor f1 c0))), (ra25, .inl (cyI, (2 * c0), .inl (mor f2 c0)))] := hD
        refine lv_goto (tgt := 0) hx hb dX3_room_31 (by decide) ?_
        have hP : va_P D vwCl [(y, .inr (3, [.ref hn, .ref ht, .int (bI (isT = true)), .ref iv, .int (nI ic), .ref bv, .ref tv, .ref vv, .ref uv, .ref ra14, .ref ra25])), (ra14, .inl (cyI, (2 * c0), .inl (mor f1 c0))), (ra25, .inl (cyI, (2 * c0), .inl (mor f2 c0)))] H := hP.sub [0, 3, 4] rfl
        have hD : va_D A [(y, .inr (3, [.ref hn, .ref ht, .int (bI (isT = true)), .ref iv, .int (nI ic), .ref bv, .ref tv, .ref vv, .ref uv, .ref ra14, .ref ra25])), (ra14, .inl (cyI, (2 * c0), .inl (mor f1 c0))), (ra25, .inl (cyI, (2 * c0), .inl (mor f2 c0)))] := hD.sub [0, 3, 4] (by decide) rfl
        exact ih ra14 ra25 (2 * c0) (mor f1 c0) (mor f2 c0) (cc + 1 + 1) (ss + 2 * c0 + 2 * c0) (okc_2 h0 (by omega)) (by have := okc_16 h0; omega) (by omega) (by omega) _ _ _ hP hD hS (lv_sub hl [0, 1] rfl)
  exact lp0 _ ov kv oc nw mk 0 0 hoc (Nat.zero_le _) (Nat.zero_le _) (Nat.lt_succ_self _) _ _ _ hP hD hS (lv_sub hl [0, 1] rfl)
