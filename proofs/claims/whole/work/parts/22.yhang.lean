/-! hangs of NetTwinModel: contract by program (wip/whole/spec_yh.py) -/
theorem rnk_add {tt : Nat → Int32} (ht : ∀ i, tt i = 0 ∨ tt i = 1) (i : Nat) : nI (rnk (nz tt) i) + tt i = nI (rnk (nz tt) (i + 1)) := by
  rw [← cnt_rnk ht i, ← cnt_rnk ht (i + 1)]
  rfl
theorem pow_8 (m : Nat) (h : m ≤ 8) : 2 ^ m ≤ 256 := Nat.pow_le_pow_right (by omega) h
theorem sh_T : ∀ m, m < 9 → nI 1 <<< (nI m &&& 31) = nI (2 ^ m) := by decide +kernel
theorem ev_0 {l : NT} {inp : Nat → Nat} {ic n : Nat} {g : Nat → Bool} (hN : NI l inp ic) : bI (evl l (setB inp g ic) n 0 = true) = 0 := by
  have h : ∀ n, evl l (setB inp g ic) n 0 = false := by
    intro n
    induction n with
    | zero => exact setB_out (NI_0 hN)
    | succ n ih =>
      cases hg : nAt l n with
      | none => rw [evl_n hg]; exact ih
      | some q =>
        obtain ⟨a, b⟩ := q
        rw [evl_g hg, updB_n (fun z => by rw [← z, hN.1.2.1] at hg; cases hg)]
        exact ih
  rw [h]
  rfl
theorem rck_0 {l : NT} (hok : nOK l) {w : Nat → Int32} {n : Nat} : rck l w n 0 = w 0 := by
  induction n with
  | zero => rfl
  | succ n ih =>
    cases hg : nAt l n with
    | none => rw [rck_n hg]; exact ih
    | some q =>
      obtain ⟨a, b⟩ := q
      rw [rck_g hg, pk_un (fun z => by rw [← z, hok.2.1] at hg; cases hg)]
      exact ih
def setS (inp : Nat → Nat) (bb tt : Nat → Int32) (s : Nat) (w : Nat → Int32) : Nat → (Nat → Int32)
  | 0 => w
  | i + 1 => upd (setS inp bb tt s w i) (inp i) (if nz tt i = true then nI (s / 2 ^ rnk (nz tt) i % 2) else bb i)
theorem setS_n {inp : Nat → Nat} {bb tt w : Nat → Int32} {s i : Nat} (h : ¬ nz tt i = true) : setS inp bb tt s w (i + 1) = upd (setS inp bb tt s w i) (inp i) (bb i) := by
  show upd _ _ (if nz tt i = true then _ else bb i) = _
  rw [if_neg h]
theorem setS_s {inp : Nat → Nat} {bb tt w : Nat → Int32} {s i : Nat} (h : nz tt i = true) : setS inp bb tt s w (i + 1) = upd (setS inp bb tt s w i) (inp i) (nI (s / 2 ^ rnk (nz tt) i % 2)) := by
  show upd _ _ (if nz tt i = true then _ else bb i) = _
  rw [if_pos h]
theorem setS_out {inp : Nat → Nat} {bb tt w : Nat → Int32} {s n k : Nat} (h : ∀ i, i < n → inp i ≠ k) : setS inp bb tt s w n k = w k := by
  induction n with
  | zero => rfl
  | succ n ih =>
    show upd (setS inp bb tt s w n) (inp n) _ k = w k
    rw [pk_un (fun z => h n (by omega) z.symm)]
    exact ih (fun i hi => h i (by omega))
theorem setS_0 {l : NT} {inp : Nat → Nat} {ic s : Nat} {bb tt w : Nat → Int32} (hN : NI l inp ic) : setS inp bb tt s w ic 0 = w 0 := setS_out (NI_0 hN)
theorem setS_in {inp : Nat → Nat} {bb tt w : Nat → Int32} {s ic : Nat} (hinj : ∀ i j, i < ic → j < ic → inp i = inp j → i = j) : ∀ n, n ≤ ic → ∀ i, i < n → setS inp bb tt s w n (inp i) = if nz tt i = true then nI (s / 2 ^ rnk (nz tt) i % 2) else bb i := by
  intro n
  induction n with
  | zero => intro _ i hi; omega
  | succ n ih =>
    intro hn i hi
    show upd (setS inp bb tt s w n) (inp n) (if nz tt n = true then nI (s / 2 ^ rnk (nz tt) n % 2) else bb n) (inp i) = _
    by_cases e : i = n
    · subst e; exact pk_us
    · rw [pk_un (fun z => e (hinj i n (by omega) (by omega) z))]
      exact ih (by omega) i (by omega)
theorem tb_bI (s r : Nat) : nI (s / 2 ^ r % 2) = bI (s.testBit r = true) := by
  have e : s.testBit r = decide (s / 2 ^ r % 2 = 1) := Nat.testBit_eq_decide_div_mod_eq
  rw [e]
  rcases Nat.mod_two_eq_zero_or_one (s / 2 ^ r) with h | h <;> rw [h] <;> rfl
theorem setS_leaf {l : NT} {inp : Nat → Nat} {ic s : Nat} {bb tt w : Nat → Int32} (hN : NI l inp ic) (hb : ∀ i, bb i = 0 ∨ bb i = 1) (hw : w 0 = 0) : ∀ k, k < l.length → nAt l k = none → setS inp bb tt s w ic k = bI (setB inp (leafS (nz bb) (nz tt) s) ic k = true) := by
  intro k hk hz
  have h0 := NI_0 hN
  obtain ⟨-, -, -, -, hin, hinj, hcov⟩ := hN
  rcases hcov k hk hz with rfl | ⟨i, hi, rfl⟩
  · rw [setS_out h0, setB_out h0, hw]; rfl
  · rw [setS_in hinj ic (Nat.le_refl _) i hi, setB_in hinj ic (Nat.le_refl _) i hi, leafS]
    by_cases z : nz tt i = true
    · rw [if_pos z, if_pos z]; exact tb_bI _ _
    · rw [if_neg z, if_neg z]; exact nz_bI hb i
theorem bI_inj {a b : Bool} : bI (a = true) = bI (b = true) ↔ a = b := by cases a <;> cases b <;> decide
theorem setB_congr {inp : Nat → Nat} {g h : Nat → Bool} : ∀ n, (∀ i, i < n → g i = h i) → setB inp g n = setB inp h n := by
  intro n
  induction n with
  | zero => intro _; rfl
  | succ n ih =>
    intro e
    show updB (setB inp g n) (inp n) (g n) = updB (setB inp h n) (inp n) (h n)
    rw [ih (fun i hi => e i (by omega)), e n (by omega)]
theorem hm_all {l : NT} {inp : Nat → Nat} {ic k : Nat} {bb tt : Nat → Int32} (h : ∀ r, r < 2 ^ rnk (nz tt) ic → hAt l inp ic bb tt k r = hCur l inp ic bb k) : ∀ s, s < 256 → hAt l inp ic bb tt k s = hCur l inp ic bb k := by
  intro s _
  have e : hAt l inp ic bb tt k s = hAt l inp ic bb tt k (s % 2 ^ rnk (nz tt) ic) := by
    unfold hAt
    rw [setB_congr ic (fun i hi => ?_)]
    unfold leafS
    by_cases z : nz tt i = true
    · rw [if_pos z, if_pos z, Nat.testBit_mod_two_pow, decide_eq_true (rnk_lt z hi (Nat.le_refl _)), Bool.true_and]
    · rw [if_neg z, if_neg z]
  rw [e]
  exact h _ (Nat.mod_lt _ (Nat.two_pow_pos _))
set_option maxHeartbeats 4000000 in
set_option maxRecDepth 100000 in
theorem c_X3_hangs (lch : Launch) (D : va_G) (cyI cyJ : ClassId) (sz : Nat) (y : Nat) (hn : Nat) (n1 : Nat) (n2 : Nat) (ht : Nat) (t1 : Nat) (t2 : Nat) (iv : Nat) (bv : Nat) (tv : Nat) (vv : Nat) (uv : Nat) (ov : Nat) (kv : Nat) (cap : Nat) (lf : Nat → Int32) (of : Nat → Int32) (tcap : Nat) (tlf : Nat → Int32) (tof : Nat → Int32) (tnc : Nat) (tgt : Nat) (nf : Nat → Int32) (ic : Nat) (bb : Nat → Int32) (tt : Nat → Int32) (vc : Nat) (vl : Nat → Int32) (tl : Nat → Int32) (oc : Nat) (nw : Nat → Int32) (mk : Nat → Int32) (l : NT) (inp : Nat → Nat) (st : Bool) (lit : Int32) (hMI : MI l inp ic st cap lf of tcap tlf tof tnc tgt nf vc vl tl oc) (hbb : ∀ i, bb i = 0 ∨ bb i = 1) (htt : ∀ i, tt i = 0 ∨ tt i = 1) : Met lch yX3_hangs wsX3_hangs ({ frames := 4, cells := 320, slots := 10240, locals := 103 } : Room) (va_Pc [.ref y, .int lit] (xA D (xTy cyI cyJ) sz [(y, .inr (3, [.ref hn, .ref ht, .int (bI (st = true)), .ref iv, .int (nI ic), .ref bv, .ref tv, .ref vv, .ref uv, .ref ov, .ref kv])), (hn, .inr (2, [.ref n1, .ref n2, .int (nI l.length), .int (nI (nGates l)), .int (nI 400)])), (n1, .inl (cyI, cap, .inl lf)), (n2, .inl (cyI, cap, .inl of)), (ht, .inr (2, [.ref t1, .ref t2, .int (nI tnc), .int (nI tgt), .int (nI 1500)])), (t1, .inl (cyI, tcap, .inl tlf)), (t2, .inl (cyI, tcap, .inl tof)), (iv, .inl (cyI, 64, .inl nf)), (bv, .inl (cyI, 64, .inl bb)), (tv, .inl (cyI, 64, .inl tt)), (vv, .inl (cyI, vc, .inl vl)), (uv, .inl (cyI, vc, .inl tl)), (ov, .inl (cyI, oc, .inl nw)), (kv, .inl (cyI, oc, .inl mk))])) (va_Qi (fun (r : Int32) (u : Nat × Nat × Nat × (Nat → Int32) × (Nat → Int32)) => r = sHangs l inp ic bb tt lit ∧ MI l inp ic st cap lf of tcap tlf tof tnc tgt nf vc vl tl u.2.2.1) (fun (u : Nat × Nat × Nat × (Nat → Int32) × (Nat → Int32)) t => xB D (xTy cyI cyJ) sz [(y, .inr (3, [.ref hn, .ref ht, .int (bI (st = true)), .ref iv, .int (nI ic), .ref bv, .ref tv, .ref vv, .ref uv, .ref ov, .ref kv])), (hn, .inr (2, [.ref n1, .ref n2, .int (nI l.length), .int (nI (nGates l)), .int (nI 400)])), (n1, .inl (cyI, cap, .inl lf)), (n2, .inl (cyI, cap, .inl of)), (ht, .inr (2, [.ref t1, .ref t2, .int (nI tnc), .int (nI tgt), .int (nI 1500)])), (t1, .inl (cyI, tcap, .inl tlf)), (t2, .inl (cyI, tcap, .inl tof)), (iv, .inl (cyI, 64, .inl nf)), (bv, .inl (cyI, 64, .inl bb)), (tv, .inl (cyI, 64, .inl tt)), (vv, .inl (cyI, vc, .inl vl)), (uv, .inl (cyI, vc, .inl tl)), (ov, .inl (cyI, oc, .inl nw)), (kv, .inl (cyI, oc, .inl mk))] [(y, .inr (3, [.ref hn, .ref ht, .int (bI (st = true)), .ref iv, .int (nI ic), .ref bv, .ref tv, .ref vv, .ref uv, .ref u.1, .ref u.2.1])), (hn, .inr (2, [.ref n1, .ref n2, .int (nI l.length), .int (nI (nGates l)), .int (nI 400)])), (n1, .inl (cyI, cap, .inl lf)), (n2, .inl (cyI, cap, .inl of)), (ht, .inr (2, [.ref t1, .ref t2, .int (nI tnc), .int (nI tgt), .int (nI 1500)])), (t1, .inl (cyI, tcap, .inl tlf)), (t2, .inl (cyI, tcap, .inl tof)), (iv, .inl (cyI, 64, .inl nf)), (bv, .inl (cyI, 64, .inl bb)), (tv, .inl (cyI, 64, .inl tt)), (vv, .inl (cyI, vc, .inl vl)), (uv, .inl (cyI, vc, .inl tl)), (u.1, .inl (cyI, u.2.2.1, .inl u.2.2.2.1)), (u.2.1, .inl (cyI, u.2.2.1, .inl u.2.2.2.2))] t) (va_A [(y, .inr (3, [.ref hn, .ref ht, .int (bI (st = true)), .ref iv, .int (nI ic), .ref bv, .ref tv, .ref vv, .ref uv, .ref ov, .ref kv])), (hn, .inr (2, [.ref n1, .ref n2, .int (nI l.length), .int (nI (nGates l)), .int (nI 400)])), (n1, .inl (cyI, cap, .inl lf)), (n2, .inl (cyI, cap, .inl of)), (ht, .inr (2, [.ref t1, .ref t2, .int (nI tnc), .int (nI tgt), .int (nI 1500)])), (t1, .inl (cyI, tcap, .inl tlf)), (t2, .inl (cyI, tcap, .inl tof)), (iv, .inl (cyI, 64, .inl nf)), (bv, .inl (cyI, 64, .inl bb)), (tv, .inl (cyI, 64, .inl tt)), (vv, .inl (cyI, vc, .inl vl)), (uv, .inl (cyI, vc, .inl tl)), (ov, .inl (cyI, oc, .inl nw)), (kv, .inl (cyI, oc, .inl mk))] sz)) 320 10240 (va_A [(y, .inr (3, [.ref hn, .ref ht, .int (bI (st = true)), .ref iv, .int (nI ic), .ref bv, .ref tv, .ref vv, .ref uv, .ref ov, .ref kv])), (hn, .inr (2, [.ref n1, .ref n2, .int (nI l.length), .int (nI (nGates l)), .int (nI 400)])), (n1, .inl (cyI, cap, .inl lf)), (n2, .inl (cyI, cap, .inl of)), (ht, .inr (2, [.ref t1, .ref t2, .int (nI tnc), .int (nI tgt), .int (nI 1500)])), (t1, .inl (cyI, tcap, .inl tlf)), (t2, .inl (cyI, tcap, .inl tof)), (iv, .inl (cyI, 64, .inl nf)), (bv, .inl (cyI, 64, .inl bb)), (tv, .inl (cyI, 64, .inl tt)), (vv, .inl (cyI, vc, .inl vl)), (uv, .inl (cyI, vc, .inl tl)), (ov, .inl (cyI, oc, .inl nw)), (kv, .inl (cyI, oc, .inl mk))] sz) := by
  refine x_met RX3 (by decide) rfl rfl (Nat.le_of_ble_eq_true rfl) ?_
  intro p e s m below meth c A Q hAe hQ hx hb hr hlocks hml hnm hts hown hNN hK hsz hP hD hS hA ls hl
  have wf43 := hts (.fieldLink RX3 43 "NetTwinModel" "inputCount" "I") (by decide +kernel)
  have hiX3 : ∀ w ∈ u_ws RX3 TX3 11, w ∈ wsX3_hangs := by decide +kernel
  have wf14 := hts (.fieldLink RX3 14 "NetTwinModel" "net" "LNetTwinModel$Nodes;") (by decide +kernel)
  have wf37 := hts (.fieldLink RX3 37 "NetTwinModel" "now" "[I") (by decide +kernel)
  have wf21 := hts (.fieldLink RX3 21 "NetTwinModel" "inputs" "[I") (by decide +kernel)
  have wf28 := hts (.fieldLink RX3 28 "NetTwinModel" "taints" "[I") (by decide +kernel)
  have wf25 := hts (.fieldLink RX3 25 "NetTwinModel" "bits" "[I") (by decide +kernel)
  have hP : va_P D vwCl [(y, .inr (3, [.ref hn, .ref ht, .int (bI (st = true)), .ref iv, .int (nI ic), .ref bv, .ref tv, .ref vv, .ref uv, .ref ov, .ref kv])), (hn, .inr (2, [.ref n1, .ref n2, .int (nI l.length), .int (nI (nGates l)), .int (nI 400)])), (n1, .inl (cyI, cap, .inl lf)), (n2, .inl (cyI, cap, .inl of)), (ht, .inr (2, [.ref t1, .ref t2, .int (nI tnc), .int (nI tgt), .int (nI 1500)])), (t1, .inl (cyI, tcap, .inl tlf)), (t2, .inl (cyI, tcap, .inl tof)), (iv, .inl (cyI, 64, .inl nf)), (bv, .inl (cyI, 64, .inl bb)), (tv, .inl (cyI, 64, .inl tt)), (vv, .inl (cyI, vc, .inl vl)), (uv, .inl (cyI, vc, .inl tl)), (ov, .inl (cyI, oc, .inl nw)), (kv, .inl (cyI, oc, .inl mk))] s.heap := hP
  have hD : va_D A [(y, .inr (3, [.ref hn, .ref ht, .int (bI (st = true)), .ref iv, .int (nI ic), .ref bv, .ref tv, .ref vv, .ref uv, .ref ov, .ref kv])), (hn, .inr (2, [.ref n1, .ref n2, .int (nI l.length), .int (nI (nGates l)), .int (nI 400)])), (n1, .inl (cyI, cap, .inl lf)), (n2, .inl (cyI, cap, .inl of)), (ht, .inr (2, [.ref t1, .ref t2, .int (nI tnc), .int (nI tgt), .int (nI 1500)])), (t1, .inl (cyI, tcap, .inl tlf)), (t2, .inl (cyI, tcap, .inl tof)), (iv, .inl (cyI, 64, .inl nf)), (bv, .inl (cyI, 64, .inl bb)), (tv, .inl (cyI, 64, .inl tt)), (vv, .inl (cyI, vc, .inl vl)), (uv, .inl (cyI, vc, .inl tl)), (ov, .inl (cyI, oc, .inl nw)), (kv, .inl (cyI, oc, .inl mk))] := hD
  have hl : lv_has ls 7 [(0, .ref y), (1, .int lit)] := hl
  have hM2 := hMI
  obtain ⟨hNI, hrp, hcl, hoc1, hoc2, hoc3, hvc, hoc4, hin, -⟩ := hM2
  have hN2 := hNI
  obtain ⟨hok, hg, hgM, hic, hi1, hi2, hi3⟩ := hN2
  have hN5 : l.length < 100000 := by omega
  have hc16 := okc_16 hoc1
  have ht16 := okc_16 hoc2
  have hv16 := okc_16 hoc3
  have ho16 := okc_16 hoc4
  refine lv_iconst (v := nI 0) hx hb dX3_hangs_0 (by decide) ?_
  refine lv_istore_n (lv' := [(2, .int (nI 0)), (0, .ref y), (1, .int lit)]) hx hb dX3_hangs_1 rfl hl (by decide) rfl (fun ls hl => ?_)
  refine lv_iconst (v := nI 0) hx hb dX3_hangs_2 (by decide) ?_
  refine lv_istore_n (lv' := [(3, .int (nI 0)), (2, .int (nI 0)), (0, .ref y), (1, .int lit)]) hx hb dX3_hangs_3 rfl hl (by decide) rfl (fun ls hl => ?_)
  have lp4 : ∀ n : Nat, ∀ (i : Nat) (hi : i ≤ ic) (hme : ic - i < n) (H : Heap) (locs : List Loc) (ls : Array Slot), va_P D vwCl [(y, .inr (3, [.ref hn, .ref ht, .int (bI (st = true)), .ref iv, .int (nI ic), .ref bv, .ref tv, .ref vv, .ref uv, .ref ov, .ref kv])), (hn, .inr (2, [.ref n1, .ref n2, .int (nI l.length), .int (nI (nGates l)), .int (nI 400)])), (n1, .inl (cyI, cap, .inl lf)), (n2, .inl (cyI, cap, .inl of)), (ht, .inr (2, [.ref t1, .ref t2, .int (nI tnc), .int (nI tgt), .int (nI 1500)])), (t1, .inl (cyI, tcap, .inl tlf)), (t2, .inl (cyI, tcap, .inl tof)), (iv, .inl (cyI, 64, .inl nf)), (bv, .inl (cyI, 64, .inl bb)), (tv, .inl (cyI, 64, .inl tt)), (vv, .inl (cyI, vc, .inl vl)), (uv, .inl (cyI, vc, .inl tl)), (ov, .inl (cyI, oc, .inl nw)), (kv, .inl (cyI, oc, .inl mk))] H → va_D A [(y, .inr (3, [.ref hn, .ref ht, .int (bI (st = true)), .ref iv, .int (nI ic), .ref bv, .ref tv, .ref vv, .ref uv, .ref ov, .ref kv])), (hn, .inr (2, [.ref n1, .ref n2, .int (nI l.length), .int (nI (nGates l)), .int (nI 400)])), (n1, .inl (cyI, cap, .inl lf)), (n2, .inl (cyI, cap, .inl of)), (ht, .inr (2, [.ref t1, .ref t2, .int (nI tnc), .int (nI tgt), .int (nI 1500)])), (t1, .inl (cyI, tcap, .inl tlf)), (t2, .inl (cyI, tcap, .inl tof)), (iv, .inl (cyI, 64, .inl nf)), (bv, .inl (cyI, 64, .inl bb)), (tv, .inl (cyI, 64, .inl tt)), (vv, .inl (cyI, vc, .inl vl)), (uv, .inl (cyI, vc, .inl tl)), (ov, .inl (cyI, oc, .inl nw)), (kv, .inl (cyI, oc, .inl mk))] → va_S A s.heap H locs → lv_has ls 7 [(3, .int (nI i)), (2, .int (nI (rnk (nz tt) i))), (0, .ref y), (1, .int lit)] → W p lch e ({ frames := 4, cells := 320, slots := 10240, locals := 103 } : Room) s m ([.ref y, .int lit] : List Value).toArray below meth c H locs 0 0 Q (F0 m 4 ls []) := by
    intro n
    induction n with
    | zero => intro i hi hme H locs ls hP hD hS hl; exact absurd hme (Nat.not_lt_zero _)
    | succ n ih =>
      intro i hi hme H locs ls hP hD hS hl
      refine lv_iload_n hx hb dX3_hangs_4 rfl (lv_at hl 0 rfl) ?_
      refine lv_aload_n hx hb dX3_hangs_5 rfl (lv_at hl 2 rfl) ?_
      refine va_get (D := D) (ci := 3) (v := .int (nI ic)) (C := RX3) (T := TX3) (N := 11) hx hb hts hiX3 hown hK hP 0 rfl rfl 4 (by decide) wf43 (fun _ h9 => h9) rfl dX3_hangs_6 ?_
      refine lv_icmp_ge (tgt := 27) hx hb dX3_hangs_9 (by decide) (fun c9 => ?_) (fun c9 => ?_)
      · have c9 := (nI_leI (by omega) (by omega)).mp c9
        have hii : ic = i := by omega
        subst hii
        refine lv_aload_n hx hb dX3_hangs_27 rfl (lv_at hl 2 rfl) ?_
        refine va_get (D := D) (ci := 3) (v := .ref hn) (C := RX3) (T := TX3) (N := 11) hx hb hts hiX3 hown hK hP 0 rfl rfl 0 (by decide) wf14 (fun _ h9 => h9) rfl dX3_hangs_28 ?_
        refine lv_iload_n hx hb dX3_hangs_31 rfl (lv_at hl 3 rfl) ?_
        refine x_calli (wc := [(hn, .inr (2, [.ref n1, .ref n2, .int (nI l.length), .int (nI (nGates l)), .int (nI 400)])), (n1, .inl (cyI, cap, .inl lf)), (n2, .inl (cyI, cap, .inl of))]) (wr := [(y, .inr (3, [.ref hn, .ref ht, .int (bI (st = true)), .ref iv, .int (nI ic), .ref bv, .ref tv, .ref vv, .ref uv, .ref ov, .ref kv])), (ht, .inr (2, [.ref t1, .ref t2, .int (nI tnc), .int (nI tgt), .int (nI 1500)])), (t1, .inl (cyI, tcap, .inl tlf)), (t2, .inl (cyI, tcap, .inl tof)), (iv, .inl (cyI, 64, .inl nf)), (bv, .inl (cyI, 64, .inl bb)), (tv, .inl (cyI, 64, .inl tt)), (vv, .inl (cyI, vc, .inl vl)), (uv, .inl (cyI, vc, .inl tl)), (ov, .inl (cyI, oc, .inl nw)), (kv, .inl (cyI, oc, .inl mk))]) (w2 := fun (u : Unit) => [(y, .inr (3, [.ref hn, .ref ht, .int (bI (st = true)), .ref iv, .int (nI ic), .ref bv, .ref tv, .ref vv, .ref uv, .ref ov, .ref kv])), (hn, .inr (2, [.ref n1, .ref n2, .int (nI l.length), .int (nI (nGates l)), .int (nI 400)])), (n1, .inl (cyI, cap, .inl lf)), (n2, .inl (cyI, cap, .inl of)), (ht, .inr (2, [.ref t1, .ref t2, .int (nI tnc), .int (nI tgt), .int (nI 1500)])), (t1, .inl (cyI, tcap, .inl tlf)), (t2, .inl (cyI, tcap, .inl tof)), (iv, .inl (cyI, 64, .inl nf)), (bv, .inl (cyI, 64, .inl bb)), (tv, .inl (cyI, 64, .inl tt)), (vv, .inl (cyI, vc, .inl vl)), (uv, .inl (cyI, vc, .inl tl)), (ov, .inl (cyI, oc, .inl nw)), (kv, .inl (cyI, oc, .inl mk))]) [1, 2, 3] [0, 4, 5, 6, 7, 8, 9, 10, 11, 12, 13] [0, 11, 12, 13, 1, 2, 3, 4, 5, 6, 7, 8, 9, 10] (va_runV (As := [.int lit]) (rest := []) ⟨hx, hb, hml, hown, hts⟩ (c_X2_has lch D cyI cyJ _ hn n1 n2 cap lf of l.length (nGates l) 400 lit (by first | assumption | omega)) (cwV 1 hts gX3_hangs_X2_has rfl rfl rfl (by decide +kernel) ⟨Nat.le_of_ble_eq_true rfl, Nat.le_of_ble_eq_true rfl⟩) (x_preV hK hNN (hP.sub (ws' := [(hn, .inr (2, [.ref n1, .ref n2, .int (nI l.length), .int (nI (nGates l)), .int (nI 400)])), (n1, .inl (cyI, cap, .inl lf)), (n2, .inl (cyI, cap, .inl of))]) [1, 2, 3] rfl) (hD.sub (ws' := [(hn, .inr (2, [.ref n1, .ref n2, .int (nI l.length), .int (nI (nGates l)), .int (nI 400)])), (n1, .inl (cyI, cap, .inl lf)), (n2, .inl (cyI, cap, .inl of))]) [1, 2, 3] (by decide) rfl) rfl rfl (ci := 2) (q0 := 0) rfl rfl rfl) rfl rfl hl.1 rfl (lv_room (Nat.le_of_ble_eq_true rfl)) dX3_hangs_32 ⟨Nat.le_of_ble_eq_true rfl, Nat.le_of_ble_eq_true rfl⟩) rfl hP hD hS hA rfl rfl (by decide) (by decide) (fun _ => rfl) (by decide) (fun r32 u32 H locs hw32 hP hD hS hz32 => ?_)
        have hP : va_P D vwCl [(y, .inr (3, [.ref hn, .ref ht, .int (bI (st = true)), .ref iv, .int (nI ic), .ref bv, .ref tv, .ref vv, .ref uv, .ref ov, .ref kv])), (hn, .inr (2, [.ref n1, .ref n2, .int (nI l.length), .int (nI (nGates l)), .int (nI 400)])), (n1, .inl (cyI, cap, .inl lf)), (n2, .inl (cyI, cap, .inl of)), (ht, .inr (2, [.ref t1, .ref t2, .int (nI tnc), .int (nI tgt), .int (nI 1500)])), (t1, .inl (cyI, tcap, .inl tlf)), (t2, .inl (cyI, tcap, .inl tof)), (iv, .inl (cyI, 64, .inl nf)), (bv, .inl (cyI, 64, .inl bb)), (tv, .inl (cyI, 64, .inl tt)), (vv, .inl (cyI, vc, .inl vl)), (uv, .inl (cyI, vc, .inl tl)), (ov, .inl (cyI, oc, .inl nw)), (kv, .inl (cyI, oc, .inl mk))] H := hP
        have hD : va_D A [(y, .inr (3, [.ref hn, .ref ht, .int (bI (st = true)), .ref iv, .int (nI ic), .ref bv, .ref tv, .ref vv, .ref uv, .ref ov, .ref kv])), (hn, .inr (2, [.ref n1, .ref n2, .int (nI l.length), .int (nI (nGates l)), .int (nI 400)])), (n1, .inl (cyI, cap, .inl lf)), (n2, .inl (cyI, cap, .inl of)), (ht, .inr (2, [.ref t1, .ref t2, .int (nI tnc), .int (nI tgt), .int (nI 1500)])), (t1, .inl (cyI, tcap, .inl tlf)), (t2, .inl (cyI, tcap, .inl tof)), (iv, .inl (cyI, 64, .inl nf)), (bv, .inl (cyI, 64, .inl bb)), (tv, .inl (cyI, 64, .inl tt)), (vv, .inl (cyI, vc, .inl vl)), (uv, .inl (cyI, vc, .inl tl)), (ov, .inl (cyI, oc, .inl nw)), (kv, .inl (cyI, oc, .inl mk))] := hD
        have hw32 : r32 = bI (0 ≤ lit ∧ lit < nI (2 * l.length)) := hw32
        subst hw32
        refine W.widen (k := 0) (n := 0) (Nat.le_refl _) (Nat.le_refl _) ?_
        refine lv_if_eq (tgt := 44) hx hb dX3_hangs_35 (by decide) (fun c35 => ?_) (fun c35 => ?_)
        · have c35 := bI_0.mp c35
          refine lv_iconst (v := (-1)) hx hb dX3_hangs_44 (by decide) ?_
          refine x_top (show (-1) = sHangs l inp ic bb tt lit from (sHangs_n (dO_no c35)).symm) ?_
          exact x_iret hQ hAe hx hb hr hlocks (rfl) hS hK (Nat.zero_le _) (Nat.zero_le _) dX3_hangs_45 (ov, kv, oc, nw, mk) hP hD (⟨rfl, hMI⟩)
        · have c35 := Decidable.not_not.mp (mt bI_0.mpr c35)
          refine lv_iload_n hx hb dX3_hangs_38 rfl (lv_at hl 1 rfl) ?_
          refine lv_bipush (v := nI 8) hx hb dX3_hangs_39 (by decide) ?_
          refine lv_icmp_le (tgt := 46) hx hb dX3_hangs_41 (by decide) (fun c41 => ?_) (fun c41 => ?_)
          · have c41 := (nI_leI (Nat.lt_of_le_of_lt (rnk_le _ _) (by omega)) (by omega)).mp c41
            obtain ⟨k, hk, rfl, ek, -⟩ := (dO_cases hN5 lit).resolve_left (fun z => z.1 c35)
            obtain ⟨T, hT⟩ : ∃ T, T = 2 ^ rnk (nz tt) ic := ⟨_, rfl⟩
            have hT8 : T ≤ 256 := by rw [hT]; exact pow_8 _ c41
            refine lv_aload_n hx hb dX3_hangs_46 rfl (lv_at hl 2 rfl) ?_
            refine x_callv (wc := [(y, .inr (3, [.ref hn, .ref ht, .int (bI (st = true)), .ref iv, .int (nI ic), .ref bv, .ref tv, .ref vv, .ref uv, .ref ov, .ref kv])), (hn, .inr (2, [.ref n1, .ref n2, .int (nI l.length), .int (nI (nGates l)), .int (nI 400)])), (n1, .inl (cyI, cap, .inl lf)), (n2, .inl (cyI, cap, .inl of)), (ht, .inr (2, [.ref t1, .ref t2, .int (nI tnc), .int (nI tgt), .int (nI 1500)])), (t1, .inl (cyI, tcap, .inl tlf)), (t2, .inl (cyI, tcap, .inl tof)), (iv, .inl (cyI, 64, .inl nf)), (bv, .inl (cyI, 64, .inl bb)), (tv, .inl (cyI, 64, .inl tt)), (vv, .inl (cyI, vc, .inl vl)), (uv, .inl (cyI, vc, .inl tl)), (ov, .inl (cyI, oc, .inl nw)), (kv, .inl (cyI, oc, .inl mk))]) (wr := []) (w2 := fun (u : Nat × Nat × Nat × (Nat → Int32) × (Nat → Int32)) => [(y, .inr (3, [.ref hn, .ref ht, .int (bI (st = true)), .ref iv, .int (nI ic), .ref bv, .ref tv, .ref vv, .ref uv, .ref u.1, .ref u.2.1])), (hn, .inr (2, [.ref n1, .ref n2, .int (nI l.length), .int (nI (nGates l)), .int (nI 400)])), (n1, .inl (cyI, cap, .inl lf)), (n2, .inl (cyI, cap, .inl of)), (ht, .inr (2, [.ref t1, .ref t2, .int (nI tnc), .int (nI tgt), .int (nI 1500)])), (t1, .inl (cyI, tcap, .inl tlf)), (t2, .inl (cyI, tcap, .inl tof)), (iv, .inl (cyI, 64, .inl nf)), (bv, .inl (cyI, 64, .inl bb)), (tv, .inl (cyI, 64, .inl tt)), (vv, .inl (cyI, vc, .inl vl)), (uv, .inl (cyI, vc, .inl tl)), (u.1, .inl (cyI, u.2.2.1, .inl u.2.2.2.1)), (u.2.1, .inl (cyI, u.2.2.1, .inl u.2.2.2.2))]) [0, 1, 2, 3, 4, 5, 6, 7, 8, 9, 10, 11, 12, 13] [] [0, 1, 2, 3, 4, 5, 6, 7, 8, 9, 10, 11, 12, 13] (va_runV (As := []) (rest := []) ⟨hx, hb, hml, hown, hts⟩ (c_X3_reckonNet lch D cyI cyJ _ y hn n1 n2 ht t1 t2 iv bv tv vv uv ov kv cap lf of tcap tlf tof tnc tgt nf ic bb tt vc vl tl oc nw mk l inp st (by first | assumption | omega) (by first | assumption | omega)) (cwV 0 hts gX3_hangs_X3_reckonNet rfl rfl rfl (by decide +kernel) ⟨Nat.le_of_ble_eq_true rfl, Nat.le_of_ble_eq_true rfl⟩) (x_preV hK hNN (hP.sub (ws' := [(y, .inr (3, [.ref hn, .ref ht, .int (bI (st = true)), .ref iv, .int (nI ic), .ref bv, .ref tv, .ref vv, .ref uv, .ref ov, .ref kv])), (hn, .inr (2, [.ref n1, .ref n2, .int (nI l.length), .int (nI (nGates l)), .int (nI 400)])), (n1, .inl (cyI, cap, .inl lf)), (n2, .inl (cyI, cap, .inl of)), (ht, .inr (2, [.ref t1, .ref t2, .int (nI tnc), .int (nI tgt), .int (nI 1500)])), (t1, .inl (cyI, tcap, .inl tlf)), (t2, .inl (cyI, tcap, .inl tof)), (iv, .inl (cyI, 64, .inl nf)), (bv, .inl (cyI, 64, .inl bb)), (tv, .inl (cyI, 64, .inl tt)), (vv, .inl (cyI, vc, .inl vl)), (uv, .inl (cyI, vc, .inl tl)), (ov, .inl (cyI, oc, .inl nw)), (kv, .inl (cyI, oc, .inl mk))]) [0, 1, 2, 3, 4, 5, 6, 7, 8, 9, 10, 11, 12, 13] rfl) (hD.sub (ws' := [(y, .inr (3, [.ref hn, .ref ht, .int (bI (st = true)), .ref iv, .int (nI ic), .ref bv, .ref tv, .ref vv, .ref uv, .ref ov, .ref kv])), (hn, .inr (2, [.ref n1, .ref n2, .int (nI l.length), .int (nI (nGates l)), .int (nI 400)])), (n1, .inl (cyI, cap, .inl lf)), (n2, .inl (cyI, cap, .inl of)), (ht, .inr (2, [.ref t1, .ref t2, .int (nI tnc), .int (nI tgt), .int (nI 1500)])), (t1, .inl (cyI, tcap, .inl tlf)), (t2, .inl (cyI, tcap, .inl tof)), (iv, .inl (cyI, 64, .inl nf)), (bv, .inl (cyI, 64, .inl bb)), (tv, .inl (cyI, 64, .inl tt)), (vv, .inl (cyI, vc, .inl vl)), (uv, .inl (cyI, vc, .inl tl)), (ov, .inl (cyI, oc, .inl nw)), (kv, .inl (cyI, oc, .inl mk))]) [0, 1, 2, 3, 4, 5, 6, 7, 8, 9, 10, 11, 12, 13] (by decide) rfl) rfl rfl (ci := 3) (q0 := 0) rfl rfl rfl) rfl rfl hl.1 rfl (lv_room (Nat.le_of_ble_eq_true rfl)) dX3_hangs_47 ⟨Nat.le_of_ble_eq_true rfl, Nat.le_of_ble_eq_true rfl⟩) rfl hP hD hS hA rfl rfl (by decide) (by decide) (fun _ => rfl) (by decide) (fun u47 H locs hw47 hP hD hS hz47 => ?_)
            obtain ⟨o1, k1, oc1, f1, f2⟩ := u47
            have hP : va_P D vwCl [(y, .inr (3, [.ref hn, .ref ht, .int (bI (st = true)), .ref iv, .int (nI ic), .ref bv, .ref tv, .ref vv, .ref uv, .ref o1, .ref k1])), (hn, .inr (2, [.ref n1, .ref n2, .int (nI l.length), .int (nI (nGates l)), .int (nI 400)])), (n1, .inl (cyI, cap, .inl lf)), (n2, .inl (cyI, cap, .inl of)), (ht, .inr (2, [.ref t1, .ref t2, .int (nI tnc), .int (nI tgt), .int (nI 1500)])), (t1, .inl (cyI, tcap, .inl tlf)), (t2, .inl (cyI, tcap, .inl tof)), (iv, .inl (cyI, 64, .inl nf)), (bv, .inl (cyI, 64, .inl bb)), (tv, .inl (cyI, 64, .inl tt)), (vv, .inl (cyI, vc, .inl vl)), (uv, .inl (cyI, vc, .inl tl)), (o1, .inl (cyI, oc1, .inl f1)), (k1, .inl (cyI, oc1, .inl f2))] H := hP
            have hD : va_D A [(y, .inr (3, [.ref hn, .ref ht, .int (bI (st = true)), .ref iv, .int (nI ic), .ref bv, .ref tv, .ref vv, .ref uv, .ref o1, .ref k1])), (hn, .inr (2, [.ref n1, .ref n2, .int (nI l.length), .int (nI (nGates l)), .int (nI 400)])), (n1, .inl (cyI, cap, .inl lf)), (n2, .inl (cyI, cap, .inl of)), (ht, .inr (2, [.ref t1, .ref t2, .int (nI tnc), .int (nI tgt), .int (nI 1500)])), (t1, .inl (cyI, tcap, .inl tlf)), (t2, .inl (cyI, tcap, .inl tof)), (iv, .inl (cyI, 64, .inl nf)), (bv, .inl (cyI, 64, .inl bb)), (tv, .inl (cyI, 64, .inl tt)), (vv, .inl (cyI, vc, .inl vl)), (uv, .inl (cyI, vc, .inl tl)), (o1, .inl (cyI, oc1, .inl f1)), (k1, .inl (cyI, oc1, .inl f2))] := hD
            have hw47 : okc oc1 ∧ l.length ≤ oc1 ∧ (∀ k, k < l.length → f1 k = bI (evl l (setB inp (nz bb) ic) l.length k = true)) ∧ f2 0 = 0 := hw47
            obtain ⟨g1, g2, g3, g4⟩ := hw47
            have gc := okc_16 g1
            have f1_0 : f1 0 = 0 := (g3 0 hok.1).trans (ev_0 hNI)
            refine lv_aload_n hx hb dX3_hangs_50 rfl (lv_at hl 2 rfl) ?_
            refine va_get (D := D) (ci := 3) (v := .ref o1) (C := RX3) (T := TX3) (N := 11) hx hb hts hiX3 hown hK hP 0 rfl rfl 9 (by decide) wf37 (fun _ h9 => h9) rfl dX3_hangs_51 ?_
            refine lv_iload_n hx hb dX3_hangs_54 rfl (lv_at hl 3 rfl) ?_
            refine x_calli (wc := [(o1, .inl (cyI, oc1, .inl f1))]) (wr := [(y, .inr (3, [.ref hn, .ref ht, .int (bI (st = true)), .ref iv, .int (nI ic), .ref bv, .ref tv, .ref vv, .ref uv, .ref o1, .ref k1])), (hn, .inr (2, [.ref n1, .ref n2, .int (nI l.length), .int (nI (nGates l)), .int (nI 400)])), (n1, .inl (cyI, cap, .inl lf)), (n2, .inl (cyI, cap, .inl of)), (ht, .inr (2, [.ref t1, .ref t2, .int (nI tnc), .int (nI tgt), .int (nI 1500)])), (t1, .inl (cyI, tcap, .inl tlf)), (t2, .inl (cyI, tcap, .inl tof)), (iv, .inl (cyI, 64, .inl nf)), (bv, .inl (cyI, 64, .inl bb)), (tv, .inl (cyI, 64, .inl tt)), (vv, .inl (cyI, vc, .inl vl)), (uv, .inl (cyI, vc, .inl tl)), (k1, .inl (cyI, oc1, .inl f2))]) (w2 := fun (u : Unit) => [(y, .inr (3, [.ref hn, .ref ht, .int (bI (st = true)), .ref iv, .int (nI ic), .ref bv, .ref tv, .ref vv, .ref uv, .ref o1, .ref k1])), (hn, .inr (2, [.ref n1, .ref n2, .int (nI l.length), .int (nI (nGates l)), .int (nI 400)])), (n1, .inl (cyI, cap, .inl lf)), (n2, .inl (cyI, cap, .inl of)), (ht, .inr (2, [.ref t1, .ref t2, .int (nI tnc), .int (nI tgt), .int (nI 1500)])), (t1, .inl (cyI, tcap, .inl tlf)), (t2, .inl (cyI, tcap, .inl tof)), (iv, .inl (cyI, 64, .inl nf)), (bv, .inl (cyI, 64, .inl bb)), (tv, .inl (cyI, 64, .inl tt)), (vv, .inl (cyI, vc, .inl vl)), (uv, .inl (cyI, vc, .inl tl)), (o1, .inl (cyI, oc1, .inl f1)), (k1, .inl (cyI, oc1, .inl f2))]) [12] [0, 1, 2, 3, 4, 5, 6, 7, 8, 9, 10, 11, 13] [0, 1, 2, 3, 4, 5, 6, 7, 8, 9, 10, 11, 13, 12] (va_runS (As := [.ref o1, .int (nI k)]) (rest := []) ⟨hx, hb, hml, hown, hts⟩ (c_X3_of lch D cyI cyJ _ o1 oc1 f1 k (by first | assumption | omega) (by first | assumption | omega)) (va_cwS 2 hts gX3_hangs_X3_of rfl rfl rfl (by decide +kernel) ⟨Nat.le_of_ble_eq_true rfl, Nat.le_of_ble_eq_true rfl⟩) (x_pre hK hNN (hP.sub (ws' := [(o1, .inl (cyI, oc1, .inl f1))]) [12] rfl) (hD.sub (ws' := [(o1, .inl (cyI, oc1, .inl f1))]) [12] (by decide) rfl) rfl rfl) rfl rfl hl.1 rfl (lv_room (Nat.le_of_ble_eq_true rfl)) dX3_hangs_55 ⟨Nat.le_of_ble_eq_true rfl, Nat.le_of_ble_eq_true rfl⟩) rfl hP hD hS hA rfl rfl (by decide) (by decide) (fun _ => rfl) (by decide) (fun r55 u55 H locs hw55 hP hD hS hz55 => ?_)
            have hP : va_P D vwCl [(y, .inr (3, [.ref hn, .ref ht, .int (bI (st = true)), .ref iv, .int (nI ic), .ref bv, .ref tv, .ref vv, .ref uv, .ref o1, .ref k1])), (hn, .inr (2, [.ref n1, .ref n2, .int (nI l.length), .int (nI (nGates l)), .int (nI 400)])), (n1, .inl (cyI, cap, .inl lf)), (n2, .inl (cyI, cap, .inl of)), (ht, .inr (2, [.ref t1, .ref t2, .int (nI tnc), .int (nI tgt), .int (nI 1500)])), (t1, .inl (cyI, tcap, .inl tlf)), (t2, .inl (cyI, tcap, .inl tof)), (iv, .inl (cyI, 64, .inl nf)), (bv, .inl (cyI, 64, .inl bb)), (tv, .inl (cyI, 64, .inl tt)), (vv, .inl (cyI, vc, .inl vl)), (uv, .inl (cyI, vc, .inl tl)), (o1, .inl (cyI, oc1, .inl f1)), (k1, .inl (cyI, oc1, .inl f2))] H := hP
            have hD : va_D A [(y, .inr (3, [.ref hn, .ref ht, .int (bI (st = true)), .ref iv, .int (nI ic), .ref bv, .ref tv, .ref vv, .ref uv, .ref o1, .ref k1])), (hn, .inr (2, [.ref n1, .ref n2, .int (nI l.length), .int (nI (nGates l)), .int (nI 400)])), (n1, .inl (cyI, cap, .inl lf)), (n2, .inl (cyI, cap, .inl of)), (ht, .inr (2, [.ref t1, .ref t2, .int (nI tnc), .int (nI tgt), .int (nI 1500)])), (t1, .inl (cyI, tcap, .inl tlf)), (t2, .inl (cyI, tcap, .inl tof)), (iv, .inl (cyI, 64, .inl nf)), (bv, .inl (cyI, 64, .inl bb)), (tv, .inl (cyI, 64, .inl tt)), (vv, .inl (cyI, vc, .inl vl)), (uv, .inl (cyI, vc, .inl tl)), (o1, .inl (cyI, oc1, .inl f1)), (k1, .inl (cyI, oc1, .inl f2))] := hD
            have hw55 : r55 = ofI f1 k := hw55
            subst hw55
            refine W.widen (k := 0 + 256) (n := 0 + 8192) (Nat.le_refl _) (Nat.le_refl _) ?_
            refine x_top (show ofI f1 k = bI (hCur l inp ic bb k = true) from ofI_b (g3 (k / 2) (by omega))) ?_
            refine lv_istore_n (lv' := [(3, .int (bI (hCur l inp ic bb k = true))), (2, .int (nI (rnk (nz tt) ic))), (0, .ref y), (1, .int (nI k))]) hx hb dX3_hangs_58 rfl hl (by decide) rfl (fun ls hl => ?_)
            refine lv_iconst (v := nI 0) hx hb dX3_hangs_59 (by decide) ?_
            refine lv_istore (lv' := [(4, .int (nI 0)), (3, .int (bI (hCur l inp ic bb k = true))), (2, .int (nI (rnk (nz tt) ic))), (0, .ref y), (1, .int (nI k))]) hx hb dX3_hangs_60 hl (by decide) rfl (fun ls hl => ?_)
            have lp62 : ∀ n : Nat, ∀ (s0 : Nat) (w : Nat → Int32) (hs : s0 ≤ T) (hw0 : w 0 = 0) (hno : ∀ r, r < s0 → hAt l inp ic bb tt k r = hCur l inp ic bb k) (hme : T - s0 < n) (H : Heap) (locs : List Loc) (ls : Array Slot), va_P D vwCl [(y, .inr (3, [.ref hn, .ref ht, .int (bI (st = true)), .ref iv, .int (nI ic), .ref bv, .ref tv, .ref vv, .ref uv, .ref o1, .ref k1])), (hn, .inr (2, [.ref n1, .ref n2, .int (nI l.length), .int (nI (nGates l)), .int (nI 400)])), (n1, .inl (cyI, cap, .inl lf)), (n2, .inl (cyI, cap, .inl of)), (ht, .inr (2, [.ref t1, .ref t2, .int (nI tnc), .int (nI tgt), .int (nI 1500)])), (t1, .inl (cyI, tcap, .inl tlf)), (t2, .inl (cyI, tcap, .inl tof)), (iv, .inl (cyI, 64, .inl nf)), (bv, .inl (cyI, 64, .inl bb)), (tv, .inl (cyI, 64, .inl tt)), (vv, .inl (cyI, vc, .inl vl)), (uv, .inl (cyI, vc, .inl tl)), (o1, .inl (cyI, oc1, .inl w)), (k1, .inl (cyI, oc1, .inl f2))] H → va_D A [(y, .inr (3, [.ref hn, .ref ht, .int (bI (st = true)), .ref iv, .int (nI ic), .ref bv, .ref tv, .ref vv, .ref uv, .ref o1, .ref k1])), (hn, .inr (2, [.ref n1, .ref n2, .int (nI l.length), .int (nI (nGates l)), .int (nI 400)])), (n1, .inl (cyI, cap, .inl lf)), (n2, .inl (cyI, cap, .inl of)), (ht, .inr (2, [.ref t1, .ref t2, .int (nI tnc), .int (nI tgt), .int (nI 1500)])), (t1, .inl (cyI, tcap, .inl tlf)), (t2, .inl (cyI, tcap, .inl tof)), (iv, .inl (cyI, 64, .inl nf)), (bv, .inl (cyI, 64, .inl bb)), (tv, .inl (cyI, 64, .inl tt)), (vv, .inl (cyI, vc, .inl vl)), (uv, .inl (cyI, vc, .inl tl)), (o1, .inl (cyI, oc1, .inl w)), (k1, .inl (cyI, oc1, .inl f2))] → va_S A s.heap H locs → lv_has ls 7 [(4, .int (nI s0)), (3, .int (bI (hCur l inp ic bb k = true))), (2, .int (nI (rnk (nz tt) ic))), (0, .ref y), (1, .int (nI k))] → W p lch e ({ frames := 4, cells := 320, slots := 10240, locals := 103 } : Room) s m ([.ref y, .int (nI k)] : List Value).toArray below meth c H locs (0 + 256) (0 + 8192) Q (F0 m 62 ls []) := by
              intro n
              induction n with
              | zero => intro s0 w hs hw0 hno hme H locs ls hP hD hS hl; exact absurd hme (Nat.not_lt_zero _)
              | succ n ih62 =>
                intro s0 w hs hw0 hno hme H locs ls hP hD hS hl
                refine lv_iload hx hb dX3_hangs_62 (lv_at hl 0 rfl) ?_
                refine lv_iconst (v := nI 1) hx hb dX3_hangs_64 (by decide) ?_
                refine lv_iload_n hx hb dX3_hangs_65 rfl (lv_at hl 2 rfl) ?_
                refine lv_ishl hx hb dX3_hangs_66 ?_
                refine x_top (show nI 1 <<< (nI (rnk (nz tt) ic) &&& 31) = nI T from by rw [hT]; exact sh_T _ (by omega)) ?_
                refine lv_icmp_ge (tgt := 177) hx hb dX3_hangs_67 (by decide) (fun c67 => ?_) (fun c67 => ?_)
                · have c67 := (nI_leI (by omega) (by omega)).mp c67
                  refine lv_iconst (v := nI 0) hx hb dX3_hangs_177 (by decide) ?_
                  refine x_top (show nI 0 = sHangs l inp ic bb tt (nI k) from hg_no (by omega) ek (hm_all (fun r hr => hno r (by omega)))) ?_
                  exact x_iret hQ hAe hx hb hr hlocks (rfl) hS hK (by omega) (by omega) dX3_hangs_178 (o1, k1, oc1, w, f2) hP hD (⟨rfl, MI_oc hMI g1⟩)
                · have c67 := mt (nI_leI (by omega) (by omega)).mpr c67
                  refine lv_iload hx hb dX3_hangs_70 (lv_at hl 0 rfl) ?_
                  refine x_top (show nI s0 = nI (s0 / 2 ^ rnk (nz tt) 0) from by rw [show rnk (nz tt) 0 = 0 from rfl, Nat.pow_zero, Nat.div_one]) ?_
                  refine lv_istore (lv' := [(5, .int (nI (s0 / 2 ^ rnk (nz tt) 0))), (4, .int (nI s0)), (3, .int (bI (hCur l inp ic bb k = true))), (2, .int (nI (rnk (nz tt) ic))), (0, .ref y), (1, .int (nI k))]) hx hb dX3_hangs_72 hl (by decide) rfl (fun ls hl => ?_)
                  refine lv_iconst (v := nI 0) hx hb dX3_hangs_74 (by decide) ?_
                  refine lv_istore (lv' := [(6, .int (nI 0)), (5, .int (nI (s0 / 2 ^ rnk (nz tt) 0))), (4, .int (nI s0)), (3, .int (bI (hCur l inp ic bb k = true))), (2, .int (nI (rnk (nz tt) ic))), (0, .ref y), (1, .int (nI k))]) hx hb dX3_hangs_75 hl (by decide) rfl (fun ls hl => ?_)
                  have lp77 : ∀ n : Nat, ∀ (i : Nat) (w2 : Nat → Int32) (hi2x : i ≤ ic) (hw2 : w2 = setS inp bb tt s0 w i) (hme : ic - i < n) (H : Heap) (locs : List Loc) (ls : Array Slot), va_P D vwCl [(y, .inr (3, [.ref hn, .ref ht, .int (bI (st = true)), .ref iv, .int (nI ic), .ref bv, .ref tv, .ref vv, .ref uv, .ref o1, .ref k1])), (hn, .inr (2, [.ref n1, .ref n2, .int (nI l.length), .int (nI (nGates l)), .int (nI 400)])), (n1, .inl (cyI, cap, .inl lf)), (n2, .inl (cyI, cap, .inl of)), (ht, .inr (2, [.ref t1, .ref t2, .int (nI tnc), .int (nI tgt), .int (nI 1500)])), (t1, .inl (cyI, tcap, .inl tlf)), (t2, .inl (cyI, tcap, .inl tof)), (iv, .inl (cyI, 64, .inl nf)), (bv, .inl (cyI, 64, .inl bb)), (tv, .inl (cyI, 64, .inl tt)), (vv, .inl (cyI, vc, .inl vl)), (uv, .inl (cyI, vc, .inl tl)), (o1, .inl (cyI, oc1, .inl w2)), (k1, .inl (cyI, oc1, .inl f2))] H → va_D A [(y, .inr (3, [.ref hn, .ref ht, .int (bI (st = true)), .ref iv, .int (nI ic), .ref bv, .ref tv, .ref vv, .ref uv, .ref o1, .ref k1])), (hn, .inr (2, [.ref n1, .ref n2, .int (nI l.length), .int (nI (nGates l)), .int (nI 400)])), (n1, .inl (cyI, cap, .inl lf)), (n2, .inl (cyI, cap, .inl of)), (ht, .inr (2, [.ref t1, .ref t2, .int (nI tnc), .int (nI tgt), .int (nI 1500)])), (t1, .inl (cyI, tcap, .inl tlf)), (t2, .inl (cyI, tcap, .inl tof)), (iv, .inl (cyI, 64, .inl nf)), (bv, .inl (cyI, 64, .inl bb)), (tv, .inl (cyI, 64, .inl tt)), (vv, .inl (cyI, vc, .inl vl)), (uv, .inl (cyI, vc, .inl tl)), (o1, .inl (cyI, oc1, .inl w2)), (k1, .inl (cyI, oc1, .inl f2))] → va_S A s.heap H locs → lv_has ls 7 [(6, .int (nI i)), (5, .int (nI (s0 / 2 ^ rnk (nz tt) i))), (4, .int (nI s0)), (3, .int (bI (hCur l inp ic bb k = true))), (2, .int (nI (rnk (nz tt) ic))), (0, .ref y), (1, .int (nI k))] → W p lch e ({ frames := 4, cells := 320, slots := 10240, locals := 103 } : Room) s m ([.ref y, .int (nI k)] : List Value).toArray below meth c H locs (0 + 256) (0 + 8192) Q (F0 m 77 ls []) := by
                    intro n
                    induction n with
                    | zero => intro i w2 hi2x hw2 hme H locs ls hP hD hS hl; exact absurd hme (Nat.not_lt_zero _)
                    | succ n ih =>
                      intro i w2 hi2x hw2 hme H locs ls hP hD hS hl
                      refine lv_iload hx hb dX3_hangs_77 (lv_at hl 0 rfl) ?_
                      refine lv_aload_n hx hb dX3_hangs_79 rfl (lv_at hl 5 rfl) ?_
                      refine va_get (D := D) (ci := 3) (v := .int (nI ic)) (C := RX3) (T := TX3) (N := 11) hx hb hts hiX3 hown hK hP 0 rfl rfl 4 (by decide) wf43 (fun _ h9 => h9) rfl dX3_hangs_80 ?_
                      refine lv_icmp_ge (tgt := 149) hx hb dX3_hangs_83 (by decide) (fun c83 => ?_) (fun c83 => ?_)
                      · have c83 := (nI_leI (by omega) (by omega)).mp c83
                        refine lv_aload_n hx hb dX3_hangs_149 rfl (lv_at hl 5 rfl) ?_
                        refine lv_aload_n hx hb dX3_hangs_150 rfl (lv_at hl 5 rfl) ?_
                        refine va_get (D := D) (ci := 3) (v := .ref hn) (C := RX3) (T := TX3) (N := 11) hx hb hts hiX3 hown hK hP 0 rfl rfl 0 (by decide) wf14 (fun _ h9 => h9) rfl dX3_hangs_151 ?_
                        have hii2 : i = ic := by omega
                        rw [hii2] at hw2
                        refine x_callv (wc := [(y, .inr (3, [.ref hn, .ref ht, .int (bI (st = true)), .ref iv, .int (nI ic), .ref bv, .ref tv, .ref vv, .ref uv, .ref o1, .ref k1])), (hn, .inr (2, [.ref n1, .ref n2, .int (nI l.length), .int (nI (nGates l)), .int (nI 400)])), (n1, .inl (cyI, cap, .inl lf)), (n2, .inl (cyI, cap, .inl of)), (o1, .inl (cyI, oc1, .inl w2))]) (wr := [(ht, .inr (2, [.ref t1, .ref t2, .int (nI tnc), .int (nI tgt), .int (nI 1500)])), (t1, .inl (cyI, tcap, .inl tlf)), (t2, .inl (cyI, tcap, .inl tof)), (iv, .inl (cyI, 64, .inl nf)), (bv, .inl (cyI, 64, .inl bb)), (tv, .inl (cyI, 64, .inl tt)), (vv, .inl (cyI, vc, .inl vl)), (uv, .inl (cyI, vc, .inl tl)), (k1, .inl (cyI, oc1, .inl f2))]) (w2 := fun (u : Unit) => [(y, .inr (3, [.ref hn, .ref ht, .int (bI (st = true)), .ref iv, .int (nI ic), .ref bv, .ref tv, .ref vv, .ref uv, .ref o1, .ref k1])), (hn, .inr (2, [.ref n1, .ref n2, .int (nI l.length), .int (nI (nGates l)), .int (nI 400)])), (n1, .inl (cyI, cap, .inl lf)), (n2, .inl (cyI, cap, .inl of)), (ht, .inr (2, [.ref t1, .ref t2, .int (nI tnc), .int (nI tgt), .int (nI 1500)])), (t1, .inl (cyI, tcap, .inl tlf)), (t2, .inl (cyI, tcap, .inl tof)), (iv, .inl (cyI, 64, .inl nf)), (bv, .inl (cyI, 64, .inl bb)), (tv, .inl (cyI, 64, .inl tt)), (vv, .inl (cyI, vc, .inl vl)), (uv, .inl (cyI, vc, .inl tl)), (o1, .inl (cyI, oc1, .inl (rck l w2 l.length))), (k1, .inl (cyI, oc1, .inl f2))]) [0, 1, 2, 3, 12] [4, 5, 6, 7, 8, 9, 10, 11, 13] [9, 10, 11, 12, 0, 1, 2, 3, 4, 5, 6, 7, 13, 8] (va_runV (As := [.ref hn]) (rest := []) ⟨hx, hb, hml, hown, hts⟩ (c_X3_reckon lch D cyI cyJ _ y hn ht iv bv tv vv uv o1 k1 st ic oc1 w2 hn n1 n2 cap lf of (nGates l) 400 l (by first | assumption | omega) (by first | assumption | omega) (by first | assumption | omega) g2 (by first | assumption | omega) (by first | assumption | omega)) (cwV 1 hts gX3_hangs_X3_reckon rfl rfl rfl (by decide +kernel) ⟨Nat.le_of_ble_eq_true rfl, Nat.le_of_ble_eq_true rfl⟩) (x_preV hK hNN (hP.sub (ws' := [(y, .inr (3, [.ref hn, .ref ht, .int (bI (st = true)), .ref iv, .int (nI ic), .ref bv, .ref tv, .ref vv, .ref uv, .ref o1, .ref k1])), (hn, .inr (2, [.ref n1, .ref n2, .int (nI l.length), .int (nI (nGates l)), .int (nI 400)])), (n1, .inl (cyI, cap, .inl lf)), (n2, .inl (cyI, cap, .inl of)), (o1, .inl (cyI, oc1, .inl w2))]) [0, 1, 2, 3, 12] rfl) (hD.sub (ws' := [(y, .inr (3, [.ref hn, .ref ht, .int (bI (st = true)), .ref iv, .int (nI ic), .ref bv, .ref tv, .ref vv, .ref uv, .ref o1, .ref k1])), (hn, .inr (2, [.ref n1, .ref n2, .int (nI l.length), .int (nI (nGates l)), .int (nI 400)])), (n1, .inl (cyI, cap, .inl lf)), (n2, .inl (cyI, cap, .inl of)), (o1, .inl (cyI, oc1, .inl w2))]) [0, 1, 2, 3, 12] (by decide) rfl) rfl rfl (ci := 3) (q0 := 0) rfl rfl rfl) rfl rfl hl.1 rfl (lv_room (Nat.le_of_ble_eq_true rfl)) dX3_hangs_154 ⟨Nat.le_of_ble_eq_true rfl, Nat.le_of_ble_eq_true rfl⟩) rfl hP hD hS hA rfl rfl (by decide) (by decide) (fun _ => rfl) (by decide) (fun u154 H locs hw154 hP hD hS hz154 => ?_)
                        have hP : va_P D vwCl [(y, .inr (3, [.ref hn, .ref ht, .int (bI (st = true)), .ref iv, .int (nI ic), .ref bv, .ref tv, .ref vv, .ref uv, .ref o1, .ref k1])), (hn, .inr (2, [.ref n1, .ref n2, .int (nI l.length), .int (nI (nGates l)), .int (nI 400)])), (n1, .inl (cyI, cap, .inl lf)), (n2, .inl (cyI, cap, .inl of)), (ht, .inr (2, [.ref t1, .ref t2, .int (nI tnc), .int (nI tgt), .int (nI 1500)])), (t1, .inl (cyI, tcap, .inl tlf)), (t2, .inl (cyI, tcap, .inl tof)), (iv, .inl (cyI, 64, .inl nf)), (bv, .inl (cyI, 64, .inl bb)), (tv, .inl (cyI, 64, .inl tt)), (vv, .inl (cyI, vc, .inl vl)), (uv, .inl (cyI, vc, .inl tl)), (o1, .inl (cyI, oc1, .inl (rck l w2 l.length))), (k1, .inl (cyI, oc1, .inl f2))] H := hP
                        have hD : va_D A [(y, .inr (3, [.ref hn, .ref ht, .int (bI (st = true)), .ref iv, .int (nI ic), .ref bv, .ref tv, .ref vv, .ref uv, .ref o1, .ref k1])), (hn, .inr (2, [.ref n1, .ref n2, .int (nI l.length), .int (nI (nGates l)), .int (nI 400)])), (n1, .inl (cyI, cap, .inl lf)), (n2, .inl (cyI, cap, .inl of)), (ht, .inr (2, [.ref t1, .ref t2, .int (nI tnc), .int (nI tgt), .int (nI 1500)])), (t1, .inl (cyI, tcap, .inl tlf)), (t2, .inl (cyI, tcap, .inl tof)), (iv, .inl (cyI, 64, .inl nf)), (bv, .inl (cyI, 64, .inl bb)), (tv, .inl (cyI, 64, .inl tt)), (vv, .inl (cyI, vc, .inl vl)), (uv, .inl (cyI, vc, .inl tl)), (o1, .inl (cyI, oc1, .inl (rck l w2 l.length))), (k1, .inl (cyI, oc1, .inl f2))] := hD
                        refine W.widen (k := 0 + 256) (n := 0 + 8192) (Nat.le_refl _) (Nat.le_refl _) ?_
                        refine lv_aload_n hx hb dX3_hangs_157 rfl (lv_at hl 5 rfl) ?_
                        refine va_get (D := D) (ci := 3) (v := .ref o1) (C := RX3) (T := TX3) (N := 11) hx hb hts hiX3 hown hK hP 0 rfl rfl 9 (by decide) wf37 (fun _ h9 => h9) rfl dX3_hangs_158 ?_
                        refine lv_iload_n hx hb dX3_hangs_161 rfl (lv_at hl 6 rfl) ?_
                        refine x_calli (wc := [(o1, .inl (cyI, oc1, .inl (rck l w2 l.length)))]) (wr := [(y, .inr (3, [.ref hn, .ref ht, .int (bI (st = true)), .ref iv, .int (nI ic), .ref bv, .ref tv, .ref vv, .ref uv, .ref o1, .ref k1])), (hn, .inr (2, [.ref n1, .ref n2, .int (nI l.length), .int (nI (nGates l)), .int (nI 400)])), (n1, .inl (cyI, cap, .inl lf)), (n2, .inl (cyI, cap, .inl of)), (ht, .inr (2, [.ref t1, .ref t2, .int (nI tnc), .int (nI tgt), .int (nI 1500)])), (t1, .inl (cyI, tcap, .inl tlf)), (t2, .inl (cyI, tcap, .inl tof)), (iv, .inl (cyI, 64, .inl nf)), (bv, .inl (cyI, 64, .inl bb)), (tv, .inl (cyI, 64, .inl tt)), (vv, .inl (cyI, vc, .inl vl)), (uv, .inl (cyI, vc, .inl tl)), (k1, .inl (cyI, oc1, .inl f2))]) (w2 := fun (u : Unit) => [(y, .inr (3, [.ref hn, .ref ht, .int (bI (st = true)), .ref iv, .int (nI ic), .ref bv, .ref tv, .ref vv, .ref uv, .ref o1, .ref k1])), (hn, .inr (2, [.ref n1, .ref n2, .int (nI l.length), .int (nI (nGates l)), .int (nI 400)])), (n1, .inl (cyI, cap, .inl lf)), (n2, .inl (cyI, cap, .inl of)), (ht, .inr (2, [.ref t1, .ref t2, .int (nI tnc), .int (nI tgt), .int (nI 1500)])), (t1, .inl (cyI, tcap, .inl tlf)), (t2, .inl (cyI, tcap, .inl tof)), (iv, .inl (cyI, 64, .inl nf)), (bv, .inl (cyI, 64, .inl bb)), (tv, .inl (cyI, 64, .inl tt)), (vv, .inl (cyI, vc, .inl vl)), (uv, .inl (cyI, vc, .inl tl)), (o1, .inl (cyI, oc1, .inl (rck l w2 l.length))), (k1, .inl (cyI, oc1, .inl f2))]) [12] [0, 1, 2, 3, 4, 5, 6, 7, 8, 9, 10, 11, 13] [0, 1, 2, 3, 4, 5, 6, 7, 8, 9, 10, 11, 13, 12] (va_runS (As := [.ref o1, .int (nI k)]) (rest := []) ⟨hx, hb, hml, hown, hts⟩ (c_X3_of lch D cyI cyJ _ o1 oc1 (rck l w2 l.length) k (by first | assumption | omega) (by first | assumption | omega)) (va_cwS 2 hts gX3_hangs_X3_of rfl rfl rfl (by decide +kernel) ⟨Nat.le_of_ble_eq_true rfl, Nat.le_of_ble_eq_true rfl⟩) (x_pre hK hNN (hP.sub (ws' := [(o1, .inl (cyI, oc1, .inl (rck l w2 l.length)))]) [12] rfl) (hD.sub (ws' := [(o1, .inl (cyI, oc1, .inl (rck l w2 l.length)))]) [12] (by decide) rfl) rfl rfl) rfl rfl hl.1 rfl (lv_room (Nat.le_of_ble_eq_true rfl)) dX3_hangs_162 ⟨Nat.le_of_ble_eq_true rfl, Nat.le_of_ble_eq_true rfl⟩) rfl hP hD hS hA rfl rfl (by decide) (by decide) (fun _ => rfl) (by decide) (fun r162 u162 H locs hw162 hP hD hS hz162 => ?_)
                        have hP : va_P D vwCl [(y, .inr (3, [.ref hn, .ref ht, .int (bI (st = true)), .ref iv, .int (nI ic), .ref bv, .ref tv, .ref vv, .ref uv, .ref o1, .ref k1])), (hn, .inr (2, [.ref n1, .ref n2, .int (nI l.length), .int (nI (nGates l)), .int (nI 400)])), (n1, .inl (cyI, cap, .inl lf)), (n2, .inl (cyI, cap, .inl of)), (ht, .inr (2, [.ref t1, .ref t2, .int (nI tnc), .int (nI tgt), .int (nI 1500)])), (t1, .inl (cyI, tcap, .inl tlf)), (t2, .inl (cyI, tcap, .inl tof)), (iv, .inl (cyI, 64, .inl nf)), (bv, .inl (cyI, 64, .inl bb)), (tv, .inl (cyI, 64, .inl tt)), (vv, .inl (cyI, vc, .inl vl)), (uv, .inl (cyI, vc, .inl tl)), (o1, .inl (cyI, oc1, .inl (rck l w2 l.length))), (k1, .inl (cyI, oc1, .inl f2))] H := hP
                        have hD : va_D A [(y, .inr (3, [.ref hn, .ref ht, .int (bI (st = true)), .ref iv, .int (nI ic), .ref bv, .ref tv, .ref vv, .ref uv, .ref o1, .ref k1])), (hn, .inr (2, [.ref n1, .ref n2, .int (nI l.length), .int (nI (nGates l)), .int (nI 400)])), (n1, .inl (cyI, cap, .inl lf)), (n2, .inl (cyI, cap, .inl of)), (ht, .inr (2, [.ref t1, .ref t2, .int (nI tnc), .int (nI tgt), .int (nI 1500)])), (t1, .inl (cyI, tcap, .inl tlf)), (t2, .inl (cyI, tcap, .inl tof)), (iv, .inl (cyI, 64, .inl nf)), (bv, .inl (cyI, 64, .inl bb)), (tv, .inl (cyI, 64, .inl tt)), (vv, .inl (cyI, vc, .inl vl)), (uv, .inl (cyI, vc, .inl tl)), (o1, .inl (cyI, oc1, .inl (rck l w2 l.length))), (k1, .inl (cyI, oc1, .inl f2))] := hD
                        have hw162 : r162 = ofI (rck l w2 l.length) k := hw162
                        subst hw162
                        refine W.widen (k := 0 + 256) (n := 0 + 8192) (Nat.le_refl _) (Nat.le_refl _) ?_
                        refine x_top (show ofI (rck l w2 l.length) k = bI (hAt l inp ic bb tt k s0 = true) from ofI_b (rck_b hok (by rw [hw2]; exact setS_leaf hNI hbb hw0) l.length (Nat.le_refl _) (k / 2) (by omega) (Or.inl (by omega)))) ?_
                        refine lv_iload_n hx hb dX3_hangs_165 rfl (lv_at hl 3 rfl) ?_
                        refine lv_icmp_eq (tgt := 171) hx hb dX3_hangs_166 (by decide) (fun c166 => ?_) (fun c166 => ?_)
                        · have c166 := bI_inj.mp c166
                          refine lv_iinc (v := nI (s0 + 1)) (lv' := [(4, .int (nI (s0 + 1))), (6, .int (nI i)), (5, .int (nI (s0 / 2 ^ rnk (nz tt) i))), (3, .int (bI (hCur l inp ic bb k = true))), (2, .int (nI (rnk (nz tt) ic))), (0, .ref y), (1, .int (nI k))]) hx hb dX3_hangs_171 hl (k := 2) rfl (n_inc _) (by decide) rfl (fun ls hl => ?_)
                          refine lv_goto (tgt := 62) hx hb dX3_hangs_174 (by decide) ?_
                          exact ih62 (s0 + 1) (rck l w2 l.length) (by omega) (by rw [rck_0 hok, hw2, setS_0 hNI]; exact hw0) (fun r hr => (Nat.lt_succ_iff_lt_or_eq.mp hr).elim (hno r) (fun z => by rw [z]; exact c166)) (by omega) _ _ _ hP hD hS (lv_sub hl [0, 3, 4, 5, 6] rfl)
                        · have c166 := mt bI_inj.mpr c166
                          refine lv_iconst (v := nI 1) hx hb dX3_hangs_169 (by decide) ?_
                          refine x_top (show nI 1 = sHangs l inp ic bb tt (nI k) from by rw [sHangs_e ek (by omega)]; exact bI_tn (hYes_iff.mpr ⟨s0, by omega, c166⟩)) ?_
                          exact x_iret hQ hAe hx hb hr hlocks (rfl) hS hK (by omega) (by omega) dX3_hangs_170 (o1, k1, oc1, rck l w2 l.length, f2) hP hD (⟨rfl, MI_oc hMI g1⟩)
                      · have c83 := mt (nI_leI (by omega) (by omega)).mpr c83
                        have hj := hi1 i (by omega)
                        refine lv_aload_n hx hb dX3_hangs_86 rfl (lv_at hl 5 rfl) ?_
                        refine va_get (D := D) (ci := 3) (v := .ref o1) (C := RX3) (T := TX3) (N := 11) hx hb hts hiX3 hown hK hP 0 rfl rfl 9 (by decide) wf37 (fun _ h9 => h9) rfl dX3_hangs_87 ?_
                        refine lv_aload_n hx hb dX3_hangs_90 rfl (lv_at hl 5 rfl) ?_
                        refine va_get (D := D) (ci := 3) (v := .ref iv) (C := RX3) (T := TX3) (N := 11) hx hb hts hiX3 hown hK hP 0 rfl rfl 3 (by decide) wf21 (fun _ h9 => h9) rfl dX3_hangs_91 ?_
                        refine lv_iload hx hb dX3_hangs_94 (lv_at hl 0 rfl) ?_
                        refine x_iald hx hb hK hP 7 0 rfl rfl (by omega) (by omega) dX3_hangs_96 ?_
                        refine x_top (show nf i = nI (inp i) from hin i (by omega)) ?_
                        refine lv_aload_n hx hb dX3_hangs_97 rfl (lv_at hl 5 rfl) ?_
                        refine va_get (D := D) (ci := 3) (v := .ref tv) (C := RX3) (T := TX3) (N := 11) hx hb hts hiX3 hown hK hP 0 rfl rfl 6 (by decide) wf28 (fun _ h9 => h9) rfl dX3_hangs_98 ?_
                        refine lv_iload hx hb dX3_hangs_101 (lv_at hl 0 rfl) ?_
                        refine x_iald hx hb hK hP 9 0 rfl rfl (by omega) (by omega) dX3_hangs_103 ?_
                        refine lv_if_ne (tgt := 117) hx hb dX3_hangs_104 (by decide) (fun c104 => ?_) (fun c104 => ?_)
                        · have hz1 : nz tt i = true := decide_eq_true c104
                          refine lv_iload hx hb dX3_hangs_117 (lv_at hl 1 rfl) ?_
                          refine lv_iconst (v := nI 1) hx hb dX3_hangs_119 (by decide) ?_
                          refine lv_iand hx hb dX3_hangs_120 ?_
                          refine x_top (n_and1 (Nat.lt_of_le_of_lt (Nat.div_le_self _ _) (by omega))) ?_
                          refine x_iast hx hb hK hP hD hS 12 0 rfl rfl (by omega) (by omega) dX3_hangs_121 (fun H locs hP hD hS => ?_)
                          have hP : va_P D vwCl [(y, .inr (3, [.ref hn, .ref ht, .int (bI (st = true)), .ref iv, .int (nI ic), .ref bv, .ref tv, .ref vv, .ref uv, .ref o1, .ref k1])), (hn, .inr (2, [.ref n1, .ref n2, .int (nI l.length), .int (nI (nGates l)), .int (nI 400)])), (n1, .inl (cyI, cap, .inl lf)), (n2, .inl (cyI, cap, .inl of)), (ht, .inr (2, [.ref t1, .ref t2, .int (nI tnc), .int (nI tgt), .int (nI 1500)])), (t1, .inl (cyI, tcap, .inl tlf)), (t2, .inl (cyI, tcap, .inl tof)), (iv, .inl (cyI, 64, .inl nf)), (bv, .inl (cyI, 64, .inl bb)), (tv, .inl (cyI, 64, .inl tt)), (vv, .inl (cyI, vc, .inl vl)), (uv, .inl (cyI, vc, .inl tl)), (o1, .inl (cyI, oc1, .inl (upd w2 (inp i) (nI ((s0 / 2 ^ rnk (nz tt) i) % 2))))), (k1, .inl (cyI, oc1, .inl f2))] H := hP
                          have hD : va_D A [(y, .inr (3, [.ref hn, .ref ht, .int (bI (st = true)), .ref iv, .int (nI ic), .ref bv, .ref tv, .ref vv, .ref uv, .ref o1, .ref k1])), (hn, .inr (2, [.ref n1, .ref n2, .int (nI l.length), .int (nI (nGates l)), .int (nI 400)])), (n1, .inl (cyI, cap, .inl lf)), (n2, .inl (cyI, cap, .inl of)), (ht, .inr (2, [.ref t1, .ref t2, .int (nI tnc), .int (nI tgt), .int (nI 1500)])), (t1, .inl (cyI, tcap, .inl tlf)), (t2, .inl (cyI, tcap, .inl tof)), (iv, .inl (cyI, 64, .inl nf)), (bv, .inl (cyI, 64, .inl bb)), (tv, .inl (cyI, 64, .inl tt)), (vv, .inl (cyI, vc, .inl vl)), (uv, .inl (cyI, vc, .inl tl)), (o1, .inl (cyI, oc1, .inl (upd w2 (inp i) (nI ((s0 / 2 ^ rnk (nz tt) i) % 2))))), (k1, .inl (cyI, oc1, .inl f2))] := hD
                          refine lv_aload_n hx hb dX3_hangs_122 rfl (lv_at hl 5 rfl) ?_
                          refine va_get (D := D) (ci := 3) (v := .ref tv) (C := RX3) (T := TX3) (N := 11) hx hb hts hiX3 hown hK hP 0 rfl rfl 6 (by decide) wf28 (fun _ h9 => h9) rfl dX3_hangs_123 ?_
                          refine lv_iload hx hb dX3_hangs_126 (lv_at hl 0 rfl) ?_
                          refine x_iald hx hb hK hP 9 0 rfl rfl (by omega) (by omega) dX3_hangs_128 ?_
                          refine lv_if_ne (tgt := 137) hx hb dX3_hangs_129 (by decide) (fun c129 => ?_) (fun c129 => absurd c129 (c104))
                          refine lv_iload hx hb dX3_hangs_137 (lv_at hl 1 rfl) ?_
                          refine lv_iconst (v := nI 1) hx hb dX3_hangs_139 (by decide) ?_
                          refine lv_ishr hx hb dX3_hangs_140 ?_
                          refine x_top (n_shr1 (Nat.lt_of_le_of_lt (Nat.div_le_self _ _) (by omega))) ?_
                          refine x_top (show nI ((s0 / 2 ^ rnk (nz tt) i) / 2) = nI (s0 / 2 ^ rnk (nz tt) (i + 1)) from by rw [rnk_s hz1, Nat.pow_succ, ← Nat.div_div_eq_div_mul]) ?_
                          refine lv_istore (lv' := [(5, .int (nI (s0 / 2 ^ rnk (nz tt) (i + 1)))), (6, .int (nI i)), (4, .int (nI s0)), (3, .int (bI (hCur l inp ic bb k = true))), (2, .int (nI (rnk (nz tt) ic))), (0, .ref y), (1, .int (nI k))]) hx hb dX3_hangs_141 hl (by decide) rfl (fun ls hl => ?_)
                          refine lv_iinc (v := nI (i + 1)) (lv' := [(6, .int (nI (i + 1))), (5, .int (nI (s0 / 2 ^ rnk (nz tt) (i + 1)))), (4, .int (nI s0)), (3, .int (bI (hCur l inp ic bb k = true))), (2, .int (nI (rnk (nz tt) ic))), (0, .ref y), (1, .int (nI k))]) hx hb dX3_hangs_143 hl (k := 1) rfl (n_inc _) (by decide) rfl (fun ls hl => ?_)
                          refine lv_goto (tgt := 77) hx hb dX3_hangs_146 (by decide) ?_
                          exact ih (i + 1) (upd w2 (inp i) (nI (s0 / 2 ^ rnk (nz tt) i % 2))) (by omega) (by rw [setS_s hz1, ← hw2]) (by omega) _ _ _ hP hD hS (lv_sub hl [0, 1, 2, 3, 4, 5, 6] rfl)
                        · have hz0 : ¬ nz tt i = true := fun z => (of_decide_eq_true z) c104
                          refine lv_aload_n hx hb dX3_hangs_107 rfl (lv_at hl 5 rfl) ?_
                          refine va_get (D := D) (ci := 3) (v := .ref bv) (C := RX3) (T := TX3) (N := 11) hx hb hts hiX3 hown hK hP 0 rfl rfl 5 (by decide) wf25 (fun _ h9 => h9) rfl dX3_hangs_108 ?_
                          refine lv_iload hx hb dX3_hangs_111 (lv_at hl 0 rfl) ?_
                          refine x_iald hx hb hK hP 8 0 rfl rfl (by omega) (by omega) dX3_hangs_113 ?_
                          refine lv_goto (tgt := 121) hx hb dX3_hangs_114 (by decide) ?_
                          refine x_iast hx hb hK hP hD hS 12 0 rfl rfl (by omega) (by omega) dX3_hangs_121 (fun H locs hP hD hS => ?_)
                          have hP : va_P D vwCl [(y, .inr (3, [.ref hn, .ref ht, .int (bI (st = true)), .ref iv, .int (nI ic), .ref bv, .ref tv, .ref vv, .ref uv, .ref o1, .ref k1])), (hn, .inr (2, [.ref n1, .ref n2, .int (nI l.length), .int (nI (nGates l)), .int (nI 400)])), (n1, .inl (cyI, cap, .inl lf)), (n2, .inl (cyI, cap, .inl of)), (ht, .inr (2, [.ref t1, .ref t2, .int (nI tnc), .int (nI tgt), .int (nI 1500)])), (t1, .inl (cyI, tcap, .inl tlf)), (t2, .inl (cyI, tcap, .inl tof)), (iv, .inl (cyI, 64, .inl nf)), (bv, .inl (cyI, 64, .inl bb)), (tv, .inl (cyI, 64, .inl tt)), (vv, .inl (cyI, vc, .inl vl)), (uv, .inl (cyI, vc, .inl tl)), (o1, .inl (cyI, oc1, .inl (upd w2 (inp i) (bb i)))), (k1, .inl (cyI, oc1, .inl f2))] H := hP
                          have hD : va_D A [(y, .inr (3, [.ref hn, .ref ht, .int (bI (st = true)), .ref iv, .int (nI ic), .ref bv, .ref tv, .ref vv, .ref uv, .ref o1, .ref k1])), (hn, .inr (2, [.ref n1, .ref n2, .int (nI l.length), .int (nI (nGates l)), .int (nI 400)])), (n1, .inl (cyI, cap, .inl lf)), (n2, .inl (cyI, cap, .inl of)), (ht, .inr (2, [.ref t1, .ref t2, .int (nI tnc), .int (nI tgt), .int (nI 1500)])), (t1, .inl (cyI, tcap, .inl tlf)), (t2, .inl (cyI, tcap, .inl tof)), (iv, .inl (cyI, 64, .inl nf)), (bv, .inl (cyI, 64, .inl bb)), (tv, .inl (cyI, 64, .inl tt)), (vv, .inl (cyI, vc, .inl vl)), (uv, .inl (cyI, vc, .inl tl)), (o1, .inl (cyI, oc1, .inl (upd w2 (inp i) (bb i)))), (k1, .inl (cyI, oc1, .inl f2))] := hD
                          refine lv_aload_n hx hb dX3_hangs_122 rfl (lv_at hl 5 rfl) ?_
                          refine va_get (D := D) (ci := 3) (v := .ref tv) (C := RX3) (T := TX3) (N := 11) hx hb hts hiX3 hown hK hP 0 rfl rfl 6 (by decide) wf28 (fun _ h9 => h9) rfl dX3_hangs_123 ?_
                          refine lv_iload hx hb dX3_hangs_126 (lv_at hl 0 rfl) ?_
                          refine x_iald hx hb hK hP 9 0 rfl rfl (by omega) (by omega) dX3_hangs_128 ?_
                          refine lv_if_ne (tgt := 137) hx hb dX3_hangs_129 (by decide) (fun c129 => absurd c129 (fun z => z c104)) (fun c129 => ?_)
                          refine lv_iload hx hb dX3_hangs_132 (lv_at hl 1 rfl) ?_
                          refine lv_goto (tgt := 141) hx hb dX3_hangs_134 (by decide) ?_
                          refine x_top (show nI (s0 / 2 ^ rnk (nz tt) i) = nI (s0 / 2 ^ rnk (nz tt) (i + 1)) from by rw [rnk_n hz0]) ?_
                          refine lv_istore (lv' := [(5, .int (nI (s0 / 2 ^ rnk (nz tt) (i + 1)))), (6, .int (nI i)), (4, .int (nI s0)), (3, .int (bI (hCur l inp ic bb k = true))), (2, .int (nI (rnk (nz tt) ic))), (0, .ref y), (1, .int (nI k))]) hx hb dX3_hangs_141 hl (by decide) rfl (fun ls hl => ?_)
                          refine lv_iinc (v := nI (i + 1)) (lv' := [(6, .int (nI (i + 1))), (5, .int (nI (s0 / 2 ^ rnk (nz tt) (i + 1)))), (4, .int (nI s0)), (3, .int (bI (hCur l inp ic bb k = true))), (2, .int (nI (rnk (nz tt) ic))), (0, .ref y), (1, .int (nI k))]) hx hb dX3_hangs_143 hl (k := 1) rfl (n_inc _) (by decide) rfl (fun ls hl => ?_)
                          refine lv_goto (tgt := 77) hx hb dX3_hangs_146 (by decide) ?_
                          exact ih (i + 1) (upd w2 (inp i) (bb i)) (by omega) (by rw [setS_n hz0, ← hw2]) (by omega) _ _ _ hP hD hS (lv_sub hl [0, 1, 2, 3, 4, 5, 6] rfl)
                  exact lp77 _ 0 w (Nat.zero_le _) rfl (Nat.lt_succ_self _) _ _ _ hP hD hS (lv_sub hl [0, 1, 2, 3, 4, 5, 6] rfl)
            exact lp62 _ 0 f1 (Nat.zero_le _) f1_0 (fun r hr => absurd hr (Nat.not_lt_zero r)) (Nat.lt_succ_self _) _ _ _ hP hD hS (lv_sub hl [0, 1, 2, 3, 4] rfl)
          · have c41 := mt (nI_leI (Nat.lt_of_le_of_lt (rnk_le _ _) (by omega)) (by omega)).mpr c41
            refine lv_iconst (v := (-1)) hx hb dX3_hangs_44 (by decide) ?_
            refine x_top (show (-1) = sHangs l inp ic bb tt lit from (sHangs_m (by omega)).symm) ?_
            exact x_iret hQ hAe hx hb hr hlocks (rfl) hS hK (Nat.zero_le _) (Nat.zero_le _) dX3_hangs_45 (ov, kv, oc, nw, mk) hP hD (⟨rfl, hMI⟩)
      · have c9 := mt (nI_leI (by omega) (by omega)).mpr c9
        refine lv_iload_n hx hb dX3_hangs_12 rfl (lv_at hl 1 rfl) ?_
        refine lv_aload_n hx hb dX3_hangs_13 rfl (lv_at hl 2 rfl) ?_
        refine va_get (D := D) (ci := 3) (v := .ref tv) (C := RX3) (T := TX3) (N := 11) hx hb hts hiX3 hown hK hP 0 rfl rfl 6 (by decide) wf28 (fun _ h9 => h9) rfl dX3_hangs_14 ?_
        refine lv_iload_n hx hb dX3_hangs_17 rfl (lv_at hl 0 rfl) ?_
        refine x_iald hx hb hK hP 9 0 rfl rfl (by omega) (by omega) dX3_hangs_18 ?_
        refine lv_iadd hx hb dX3_hangs_19 ?_
        refine x_top (show nI (rnk (nz tt) i) + (tt i) = nI (rnk (nz tt) (i + 1)) from rnk_add htt i) ?_
        refine lv_istore_n (lv' := [(2, .int (nI (rnk (nz tt) (i + 1)))), (3, .int (nI i)), (0, .ref y), (1, .int lit)]) hx hb dX3_hangs_20 rfl hl (by decide) rfl (fun ls hl => ?_)
        refine lv_iinc (v := nI (i + 1)) (lv' := [(3, .int (nI (i + 1))), (2, .int (nI (rnk (nz tt) (i + 1)))), (0, .ref y), (1, .int lit)]) hx hb dX3_hangs_21 hl (k := 1) rfl (n_inc _) (by decide) rfl (fun ls hl => ?_)
        refine lv_goto (tgt := 4) hx hb dX3_hangs_24 (by decide) ?_
        exact ih (i + 1) (by omega) (by omega) _ _ _ hP hD hS (lv_sub hl [0, 1, 2, 3] rfl)
  exact lp4 _ 0 (Nat.zero_le _) (Nat.lt_succ_self _) _ _ _ hP hD hS (lv_sub hl [0, 1, 2, 3] rfl)
