/-! Nodes.and, Nodes.or: contracts by program (wip/whole/spec_m2.py) -/
theorem rp_sn2 {l : NT} {lf of lf2 of2 : Nat → Int32} {a b : Nat} (h : rpN l lf of) (h1 : ∀ k, k ≤ l.length → lf2 k = upd lf l.length (nI a) k) (h2 : ∀ k, k ≤ l.length → of2 k = upd of l.length (nI b) k) : rpN (l ++ [some (a, b)]) lf2 of2 := by
  intro k hk
  have e : (l ++ [some (a, b)]).length = l.length + 1 := by simp
  rw [h1 k (by omega), h2 k (by omega)]
  exact rpN_snoc h (some (a, b)) k hk
set_option maxHeartbeats 4000000 in
set_option maxRecDepth 100000 in
theorem c_X2_and (lch : Launch) (D : va_G) (cyI cyJ : ClassId) (sz : Nat) (h : Nat) (a1 : Nat) (a2 : Nat) (cap : Nat) (lf : Nat → Int32) (of : Nat → Int32) (M : Nat) (l : NT) (xo : Option Nat) (yo : Option Nat) (hok : nOK l) (hrp : rpN l lf of) (hgM : nGates l ≤ M) (hcl : l.length ≤ cap) (hcap : 16 ≤ cap) (hcap2 : cap < 10000) (hM : M < 10000) (hxo : vO l.length xo) (hyo : vO l.length yo) : Met lch yX2_and wsX2_and ({ frames := 3, cells := cst 2 (nAnd M l xo yo).2.length cap, slots := cst (4 * cap) (nAnd M l xo yo).2.length cap, locals := 83 } : Room) (va_Pc [.ref h, .int (eO xo), .int (eO yo)] (xA D (xTy cyI cyJ) sz [(h, .inr (2, [.ref a1, .ref a2, .int (nI l.length), .int (nI (nGates l)), .int (nI M)])), (a1, .inl (cyI, cap, .inl lf)), (a2, .inl (cyI, cap, .inl of))])) (va_Qi (fun (r : Int32) (u : Nat × Nat × Nat × (Nat → Int32) × (Nat → Int32)) => r = eO (nAnd M l xo yo).1 ∧ u.2.2.1 = cp (nAnd M l xo yo).2.length cap ∧ rpN (nAnd M l xo yo).2 u.2.2.2.1 u.2.2.2.2) (fun (u : Nat × Nat × Nat × (Nat → Int32) × (Nat → Int32)) t => xB D (xTy cyI cyJ) sz [(h, .inr (2, [.ref a1, .ref a2, .int (nI l.length), .int (nI (nGates l)), .int (nI M)])), (a1, .inl (cyI, cap, .inl lf)), (a2, .inl (cyI, cap, .inl of))] [(h, .inr (2, [.ref u.1, .ref u.2.1, .int (nI (nAnd M l xo yo).2.length), .int (nI (nGates (nAnd M l xo yo).2)), .int (nI M)])), (u.1, .inl (cyI, u.2.2.1, .inl u.2.2.2.1)), (u.2.1, .inl (cyI, u.2.2.1, .inl u.2.2.2.2))] t) (va_A [(h, .inr (2, [.ref a1, .ref a2, .int (nI l.length), .int (nI (nGates l)), .int (nI M)])), (a1, .inl (cyI, cap, .inl lf)), (a2, .inl (cyI, cap, .inl of))] sz)) (cst 2 (nAnd M l xo yo).2.length cap) (cst (4 * cap) (nAnd M l xo yo).2.length cap) (va_A [(h, .inr (2, [.ref a1, .ref a2, .int (nI l.length), .int (nI (nGates l)), .int (nI M)])), (a1, .inl (cyI, cap, .inl lf)), (a2, .inl (cyI, cap, .inl of))] sz) := by
  refine x_met RX2 (by decide) rfl rfl (Nat.le_of_ble_eq_true rfl) ?_
  intro p e s m below meth c A Q hAe hQ hx hb hr hlocks hml hnm hts hown hNN hK hsz hP hD hS hA ls hl
  have wf25 := hts (.fieldLink RX2 25 "NetTwinModel$Nodes" "count" "I") (by decide +kernel)
  have hiX2 : ∀ w ∈ u_ws RX2 TX2 5, w ∈ wsX2_and := by decide +kernel
  have wf28 := hts (.fieldLink RX2 28 "NetTwinModel$Nodes" "gates" "I") (by decide +kernel)
  have wf18 := hts (.fieldLink RX2 18 "NetTwinModel$Nodes" "most" "I") (by decide +kernel)
  have wf9 := hts (.fieldLink RX2 9 "NetTwinModel$Nodes" "left" "[I") (by decide +kernel)
  have wf15 := hts (.fieldLink RX2 15 "NetTwinModel$Nodes" "right" "[I") (by decide +kernel)
  have hP : va_P D vwCl [(h, .inr (2, [.ref a1, .ref a2, .int (nI l.length), .int (nI (nGates l)), .int (nI M)])), (a1, .inl (cyI, cap, .inl lf)), (a2, .inl (cyI, cap, .inl of))] s.heap := hP
  have hD : va_D A [(h, .inr (2, [.ref a1, .ref a2, .int (nI l.length), .int (nI (nGates l)), .int (nI M)])), (a1, .inl (cyI, cap, .inl lf)), (a2, .inl (cyI, cap, .inl of))] := hD
  have hl : lv_has ls 6 [(0, .ref h), (1, .int (eO xo)), (2, .int (eO yo))] := hl
  have hNL : l.length < 10000 := by omega
  rcases xo with _ | ka
  · have hl : lv_has ls 6 [(0, .ref h), (1, .int (-1)), (2, .int (eO yo))] := hl
    refine lv_iload_n hx hb dX2_and_0 rfl (lv_at hl 1 rfl) ?_
    refine lv_if_lt (tgt := 8) hx hb dX2_and_1 (by decide) (fun c1 => ?_) (fun c1 => absurd (by decide) c1)
    refine lv_iconst (v := (-1)) hx hb dX2_and_8 (by decide) ?_
    rw [nAnd_l] at hQ
    exact x_iret hQ hAe hx hb hr hlocks (rfl) hS hK (Nat.zero_le _) (Nat.zero_le _) dX2_and_9 (a1, a2, cap, lf, of) hP hD (⟨rfl, (if_pos hcl).symm, hrp⟩)
  · have hka := hxo ka rfl
    have hl : lv_has ls 6 [(0, .ref h), (1, .int (nI ka)), (2, .int (eO yo))] := hl
    refine lv_iload_n hx hb dX2_and_0 rfl (lv_at hl 1 rfl) ?_
    refine lv_if_lt (tgt := 8) hx hb dX2_and_1 (by decide) (fun c1 => absurd c1 (nI_pos (by omega))) (fun c1 => ?_)
    rcases yo with _ | kb
    · have hl : lv_has ls 6 [(0, .ref h), (1, .int (nI ka)), (2, .int (-1))] := hl
      refine lv_iload_n hx hb dX2_and_4 rfl (lv_at hl 2 rfl) ?_
      refine lv_if_ge (tgt := 10) hx hb dX2_and_5 (by decide) (fun c5 => absurd c5 (by decide)) (fun c5 => ?_)
      refine lv_iconst (v := (-1)) hx hb dX2_and_8 (by decide) ?_
      rw [nAnd_r] at hQ
      exact x_iret hQ hAe hx hb hr hlocks (rfl) hS hK (Nat.zero_le _) (Nat.zero_le _) dX2_and_9 (a1, a2, cap, lf, of) hP hD (⟨rfl, (if_pos hcl).symm, hrp⟩)
    · have hkb := hyo kb rfl
      have hNL : l.length < 10000 := by omega
      have hl : lv_has ls 6 [(0, .ref h), (1, .int (nI ka)), (2, .int (nI kb))] := hl
      refine lv_iload_n hx hb dX2_and_4 rfl (lv_at hl 2 rfl) ?_
      refine lv_if_ge (tgt := 10) hx hb dX2_and_5 (by decide) (fun c5 => ?_) (fun c5 => absurd (nI_pos' (by omega)) c5)
      refine lv_iload_n hx hb dX2_and_10 rfl (lv_at hl 1 rfl) ?_
      refine lv_if_eq (tgt := 32) hx hb dX2_and_11 (by decide) (fun c11 => ?_) (fun c11 => ?_)
      · have c11 := (n0_eq (by omega)).mp c11
        refine lv_iconst (v := nI 0) hx hb dX2_and_32 (by decide) ?_
        rw [nAnd_0 (by first | exact Or.inl c11 | exact Or.inr (Or.inl c15) | exact Or.inr (Or.inr ((nNeg_iff _ _).mpr ⟨c24, c29⟩)))] at hQ
        exact x_iret hQ hAe hx hb hr hlocks (rfl) hS hK (Nat.zero_le _) (Nat.zero_le _) dX2_and_33 (a1, a2, cap, lf, of) hP hD (⟨rfl, (if_pos hcl).symm, hrp⟩)
      · have c11 := mt (n0_eq (by omega)).mpr c11
        refine lv_iload_n hx hb dX2_and_14 rfl (lv_at hl 2 rfl) ?_
        refine lv_if_eq (tgt := 32) hx hb dX2_and_15 (by decide) (fun c15 => ?_) (fun c15 => ?_)
        · have c15 := (n0_eq (by omega)).mp c15
          refine lv_iconst (v := nI 0) hx hb dX2_and_32 (by decide) ?_
          rw [nAnd_0 (by first | exact Or.inl c11 | exact Or.inr (Or.inl c15) | exact Or.inr (Or.inr ((nNeg_iff _ _).mpr ⟨c24, c29⟩)))] at hQ
          exact x_iret hQ hAe hx hb hr hlocks (rfl) hS hK (Nat.zero_le _) (Nat.zero_le _) dX2_and_33 (a1, a2, cap, lf, of) hP hD (⟨rfl, (if_pos hcl).symm, hrp⟩)
        · have c15 := mt (n0_eq (by omega)).mpr c15
          refine lv_iload_n hx hb dX2_and_18 rfl (lv_at hl 1 rfl) ?_
          refine lv_iconst (v := nI 2) hx hb dX2_and_19 (by decide) ?_
          refine lv_idiv hx hb dX2_and_20 (by decide) ?_
          refine x_top (pk_div (by omega) (by omega) (by omega)) ?_
          refine lv_iload_n hx hb dX2_and_21 rfl (lv_at hl 2 rfl) ?_
          refine lv_iconst (v := nI 2) hx hb dX2_and_22 (by decide) ?_
          refine lv_idiv hx hb dX2_and_23 (by decide) ?_
          refine x_top (pk_div (by omega) (by omega) (by omega)) ?_
          refine lv_icmp_ne (tgt := 34) hx hb dX2_and_24 (by decide) (fun c24 => ?_) (fun c24 => ?_)
          · have c24 := mt (nI_eq (by omega) (by omega)).mpr c24
            have hno : ¬ (ka = 0 ∨ kb = 0 ∨ ka = nNeg kb) := fun z => z.elim c11 (fun z => z.elim c15 (fun z => by have q := (nNeg_iff _ _).mp z; first | exact c24 q.1 | exact q.2 c29))
            refine lv_iload_n hx hb dX2_and_34 rfl (lv_at hl 2 rfl) ?_
            refine lv_iconst (v := nI 1) hx hb dX2_and_35 (by decide) ?_
            refine lv_icmp_eq (tgt := 44) hx hb dX2_and_36 (by decide) (fun c36 => ?_) (fun c36 => ?_)
            · have c36 := (nI_eq (by omega) (by omega)).mp c36
              refine lv_iload_n hx hb dX2_and_44 rfl (lv_at hl 1 rfl) ?_
              rw [nAnd_a hno (by first | exact Or.inl c36 | exact Or.inr c41)] at hQ
              exact x_iret hQ hAe hx hb hr hlocks (rfl) hS hK (Nat.zero_le _) (Nat.zero_le _) dX2_and_45 (a1, a2, cap, lf, of) hP hD (⟨rfl, (if_pos hcl).symm, hrp⟩)
            · have c36 := mt (nI_eq (by omega) (by omega)).mpr c36
              refine lv_iload_n hx hb dX2_and_39 rfl (lv_at hl 1 rfl) ?_
              refine lv_iload_n hx hb dX2_and_40 rfl (lv_at hl 2 rfl) ?_
              refine lv_icmp_ne (tgt := 46) hx hb dX2_and_41 (by decide) (fun c41 => ?_) (fun c41 => ?_)
              · have c41 := mt (nI_eq (by omega) (by omega)).mpr c41
                have hn2 : ¬ (kb = 1 ∨ ka = kb) := fun z => z.elim c36 c41
                refine lv_iload_n hx hb dX2_and_46 rfl (lv_at hl 1 rfl) ?_
                refine lv_iconst (v := nI 1) hx hb dX2_and_47 (by decide) ?_
                refine lv_icmp_ne (tgt := 53) hx hb dX2_and_48 (by decide) (fun c48 => ?_) (fun c48 => ?_)
                · have c48 := mt (nI_eq (by omega) (by omega)).mpr c48
                  refine lv_iload_n hx hb dX2_and_53 rfl (lv_at hl 1 rfl) ?_
                  refine lv_iload_n hx hb dX2_and_54 rfl (lv_at hl 2 rfl) ?_
                  refine lv_icmp_ge (tgt := 62) hx hb dX2_and_55 (by decide) (fun c55 => ?_) (fun c55 => ?_)
                  · have c55 := (nI_leI (by omega) (by omega)).mp c55
                    refine lv_iload_n hx hb dX2_and_62 rfl (lv_at hl 2 rfl) ?_
                    refine lv_istore_n (lv' := [(3, .int (nI kb)), (0, .ref h), (1, .int (nI ka)), (2, .int (nI kb))]) hx hb dX2_and_63 rfl hl (by decide) rfl (fun ls hl => ?_)
                    refine lv_iload_n hx hb dX2_and_64 rfl (lv_at hl 2 rfl) ?_
                    refine lv_iload_n hx hb dX2_and_65 rfl (lv_at hl 3 rfl) ?_
                    refine lv_icmp_ge (tgt := 73) hx hb dX2_and_66 (by decide) (fun c66 => ?_) (fun c66 => absurd ((nI_leI (by omega) (by omega)).mpr c55) c66)
                    refine lv_iload_n hx hb dX2_and_73 rfl (lv_at hl 2 rfl) ?_
                    refine lv_istore (lv' := [(4, .int (nI ka)), (3, .int (nI kb)), (0, .ref h), (1, .int (nI ka)), (2, .int (nI kb))]) hx hb dX2_and_74 hl (by decide) rfl (fun ls hl => ?_)
                    refine lv_iconst (v := nI 1) hx hb dX2_and_76 (by decide) ?_
                    refine lv_istore (lv' := [(5, .int (nI 1)), (4, .int (nI ka)), (3, .int (nI kb)), (0, .ref h), (1, .int (nI ka)), (2, .int (nI kb))]) hx hb dX2_and_77 hl (by decide) rfl (fun ls hl => ?_)
                    have lp79 : ∀ n : Nat, ∀ (j : Nat) (hj0 : 1 ≤ j) (hj1 : j ≤ l.length) (hno2 : ∀ i, i < j → ¬ nAt l i = some (kb, ka)) (hme : l.length - j < n) (H : Heap) (locs : List Loc) (ls : Array Slot), va_P D vwCl [(h, .inr (2, [.ref a1, .ref a2, .int (nI l.length), .int (nI (nGates l)), .int (nI M)])), (a1, .inl (cyI, cap, .inl lf)), (a2, .inl (cyI, cap, .inl of))] H → va_D A [(h, .inr (2, [.ref a1, .ref a2, .int (nI l.length), .int (nI (nGates l)), .int (nI M)])), (a1, .inl (cyI, cap, .inl lf)), (a2, .inl (cyI, cap, .inl of))] → va_S A s.heap H locs → lv_has ls 6 [(5, .int (nI j)), (4, .int (nI ka)), (3, .int (nI kb)), (0, .ref h), (1, .int (nI ka)), (2, .int (nI kb))] → W p lch e ({ frames := 3, cells := cst 2 (nAnd M l (some ka) (some kb)).2.length cap, slots := cst (4 * cap) (nAnd M l (some ka) (some kb)).2.length cap, locals := 83 } : Room) s m ([.ref h, .int (eO (some ka)), .int (eO (some kb))] : List Value).toArray below meth c H locs 0 0 Q (F0 m 79 ls []) := by
                      intro n
                      induction n with
                      | zero => intro j hj0 hj1 hno2 hme H locs ls hP hD hS hl; exact absurd hme (Nat.not_lt_zero _)
                      | succ n ih =>
                        intro j hj0 hj1 hno2 hme H locs ls hP hD hS hl
                        refine lv_iload hx hb dX2_and_79 (lv_at hl 0 rfl) ?_
                        refine lv_aload_n hx hb dX2_and_81 rfl (lv_at hl 3 rfl) ?_
                        refine va_get (D := D) (ci := 2) (v := .int (nI l.length)) (C := RX2) (T := TX2) (N := 5) hx hb hts hiX2 hown hK hP 0 rfl rfl 2 (by decide) wf25 (fun _ h9 => h9) rfl dX2_and_82 ?_
                        refine lv_icmp_ge (tgt := 122) hx hb dX2_and_85 (by decide) (fun c85 => ?_) (fun c85 => ?_)
                        · have c85 := (nI_leI (by omega) (by omega)).mp c85
                          refine lv_aload_n hx hb dX2_and_122 rfl (lv_at hl 3 rfl) ?_
                          refine va_get (D := D) (ci := 2) (v := .int (nI (nGates l))) (C := RX2) (T := TX2) (N := 5) hx hb hts hiX2 hown hK hP 0 rfl rfl 3 (by decide) wf28 (fun _ h9 => h9) rfl dX2_and_123 ?_
                          refine lv_aload_n hx hb dX2_and_126 rfl (lv_at hl 3 rfl) ?_
                          refine va_get (D := D) (ci := 2) (v := .int (nI M)) (C := RX2) (T := TX2) (N := 5) hx hb hts hiX2 hown hK hP 0 rfl rfl 4 (by decide) wf18 (fun _ h9 => h9) rfl dX2_and_127 ?_
                          refine lv_icmp_ne (tgt := 135) hx hb dX2_and_130 (by decide) (fun c130 => ?_) (fun c130 => ?_)
                          · have c130 := mt (nI_eq (by omega) (by omega)).mpr c130
                            refine lv_aload_n hx hb dX2_and_135 rfl (lv_at hl 3 rfl) ?_
                            refine lv_dup hx hb dX2_and_136 rfl ?_
                            refine va_get (D := D) (ci := 2) (v := .int (nI (nGates l))) (C := RX2) (T := TX2) (N := 5) hx hb hts hiX2 hown hK hP 0 rfl rfl 3 (by decide) wf28 (fun _ h9 => h9) rfl dX2_and_137 ?_
                            refine lv_iconst (v := nI 1) hx hb dX2_and_140 (by decide) ?_
                            refine lv_iadd hx hb dX2_and_141 ?_
                            refine x_top (nI_add _ _) ?_
                            refine va_put (D := D) (ci := 2) (v := .int (nI (nGates l + 1))) (ty := .int) (C := RX2) (T := TX2) (N := 5) hx hb hts hiX2 tyX2 tyX2_ok nmX2 hown hK hP hD hS 0 rfl rfl 3 (by decide) wf28 (fun _ h9 => h9) rfl (by decide +kernel) rfl rfl (Nat.le_of_ble_eq_true rfl) dX2_and_142 (fun H locs hP hD hS => ?_)
                            have hP : va_P D vwCl [(h, .inr (2, [.ref a1, .ref a2, .int (nI l.length), .int (nI (nGates l + 1)), .int (nI M)])), (a1, .inl (cyI, cap, .inl lf)), (a2, .inl (cyI, cap, .inl of))] H := hP
                            have hD : va_D A [(h, .inr (2, [.ref a1, .ref a2, .int (nI l.length), .int (nI (nGates l + 1)), .int (nI M)])), (a1, .inl (cyI, cap, .inl lf)), (a2, .inl (cyI, cap, .inl of))] := hD
                            refine lv_iconst (v := nI 2) hx hb dX2_and_145 (by decide) ?_
                            refine lv_aload_n hx hb dX2_and_146 rfl (lv_at hl 3 rfl) ?_
                            refine lv_iload_n hx hb dX2_and_147 rfl (lv_at hl 2 rfl) ?_
                            refine lv_iload hx hb dX2_and_148 (lv_at hl 1 rfl) ?_
                            have eG : nAnd M l (some ka) (some kb) = (some (2 * l.length), l ++ [some (kb, ka)]) := by rw [nAnd_h hno hn2 c48 (by omega), nGate_n (nFind_none (fun i hi => hno2 i (by omega))) c130]
                            have eL : (nAnd M l (some ka) (some kb)).2.length = l.length + 1 := by rw [eG]; simp
                            have e2 : l.length + 1 = (l ++ [some (kb, ka)]).length := by simp
                            have e3 : nGates l + 1 = nGates (l ++ [some (kb, ka)]) := (nGates_snoc l kb ka).symm
                            refine x_calli (wc := [(h, .inr (2, [.ref a1, .ref a2, .int (nI l.length), .int (nI (nGates l + 1)), .int (nI M)])), (a1, .inl (cyI, cap, .inl lf)), (a2, .inl (cyI, cap, .inl of))]) (wr := []) (w2 := fun (u : Nat × Nat × Nat × (Nat → Int32) × (Nat → Int32)) => [(h, .inr (2, [.ref u.1, .ref u.2.1, .int (nI (l.length + 1)), .int (nI (nGates l + 1)), .int (nI M)])), (u.1, .inl (cyI, u.2.2.1, .inl u.2.2.2.1)), (u.2.1, .inl (cyI, u.2.2.1, .inl u.2.2.2.2))]) [0, 1, 2] [] [0, 1, 2] (va_runV (As := [.int (nI kb), .int (nI ka)]) (rest := [.int (nI 2)]) ⟨hx, hb, hml, hown, hts⟩ (c_X2_add lch D cyI cyJ _ h a1 a2 cap lf of l.length (nGates l + 1) M (nI kb) (nI ka) (by first | assumption | omega) (by first | assumption | omega) (by first | assumption | omega)) (cwV 2 hts gX2_and_X2_add rfl rfl rfl (by decide +kernel) ⟨Nat.le_of_ble_eq_true rfl, Nat.le_of_ble_eq_true rfl⟩) (x_preV hK hNN (hP.sub (ws' := [(h, .inr (2, [.ref a1, .ref a2, .int (nI l.length), .int (nI (nGates l + 1)), .int (nI M)])), (a1, .inl (cyI, cap, .inl lf)), (a2, .inl (cyI, cap, .inl of))]) [0, 1, 2] rfl) (hD.sub (ws' := [(h, .inr (2, [.ref a1, .ref a2, .int (nI l.length), .int (nI (nGates l + 1)), .int (nI M)])), (a1, .inl (cyI, cap, .inl lf)), (a2, .inl (cyI, cap, .inl of))]) [0, 1, 2] (by decide) rfl) rfl rfl (ci := 2) (q0 := 0) rfl rfl rfl) rfl rfl hl.1 rfl (lv_room (Nat.le_of_ble_eq_true rfl)) dX2_and_150 ⟨by dsimp only; rw [eL, Nat.zero_add]; exact Nat.le_refl _, by dsimp only; rw [eL, Nat.zero_add]; exact Nat.le_refl _⟩) rfl hP hD hS hA rfl rfl (by decide) (by decide) (fun _ => rfl) (by decide) (fun r150 u150 H locs hw150 hP hD hS hz150 => ?_)
                            obtain ⟨b1, b2, cap2, p150, q150⟩ := u150
                            have hP : va_P D vwCl [(h, .inr (2, [.ref b1, .ref b2, .int (nI (l.length + 1)), .int (nI (nGates l + 1)), .int (nI M)])), (b1, .inl (cyI, cap2, .inl p150)), (b2, .inl (cyI, cap2, .inl q150))] H := hP
                            have hD : va_D A [(h, .inr (2, [.ref b1, .ref b2, .int (nI (l.length + 1)), .int (nI (nGates l + 1)), .int (nI M)])), (b1, .inl (cyI, cap2, .inl p150)), (b2, .inl (cyI, cap2, .inl q150))] := hD
                            have hw150 : r150 = nI l.length ∧ cap2 = cp (l.length + 1) cap ∧ (∀ k, k ≤ l.length → p150 k = upd lf l.length (nI kb) k) ∧ (∀ k, k ≤ l.length → q150 k = upd of l.length (nI ka) k) := hw150
                            obtain ⟨rfl, w1, w2, w3⟩ := hw150
                            rw [e2, e3] at hP hD
                            refine lv_imul hx hb dX2_and_153 ?_
                            refine x_top (pk_mul _ _) ?_
                            rw [eG] at hQ
                            exact x_iret hQ hAe hx hb hr hlocks (rfl) hS hK (by rw [Nat.zero_add]; exact Nat.le_of_eq (congrArg (fun n => cst 2 n cap) e2)) (by rw [Nat.zero_add]; exact Nat.le_of_eq (congrArg (fun n => cst (4 * cap) n cap) e2)) dX2_and_154 (b1, b2, cap2, p150, q150) hP hD (⟨rfl, w1.trans (congrArg (fun n => cp n cap) e2), rp_sn2 hrp w2 w3⟩)
                          · have c130 := (nI_eq (by omega) (by omega)).mp c130
                            refine lv_iconst (v := (-1)) hx hb dX2_and_133 (by decide) ?_
                            rw [nAnd_h hno hn2 c48 (by omega), nGate_o (nFind_none (fun i hi => hno2 i (by omega))) c130] at hQ
                            exact x_iret hQ hAe hx hb hr hlocks (rfl) hS hK (Nat.zero_le _) (Nat.zero_le _) dX2_and_134 (a1, a2, cap, lf, of) hP hD (⟨rfl, (if_pos hcl).symm, hrp⟩)
                        · have c85 := mt (nI_leI (by omega) (by omega)).mpr c85
                          refine lv_aload_n hx hb dX2_and_88 rfl (lv_at hl 3 rfl) ?_
                          refine va_get (D := D) (ci := 2) (v := .ref a1) (C := RX2) (T := TX2) (N := 5) hx hb hts hiX2 hown hK hP 0 rfl rfl 0 (by decide) wf9 (fun _ h9 => h9) rfl dX2_and_89 ?_
                          refine lv_iload hx hb dX2_and_92 (lv_at hl 0 rfl) ?_
                          refine x_iald hx hb hK hP 1 0 rfl rfl (by omega) (by omega) dX2_and_94 ?_
                          refine x_top (show lf j = gL (nAt l j) from (hrp j (by omega)).1) ?_
                          refine lv_iload_n hx hb dX2_and_95 rfl (lv_at hl 2 rfl) ?_
                          refine lv_icmp_ne (tgt := 116) hx hb dX2_and_96 (by decide) (fun c96 => ?_) (fun c96 => ?_)
                          · refine lv_iinc (v := nI (j + 1)) (lv' := [(5, .int (nI (j + 1))), (4, .int (nI ka)), (3, .int (nI kb)), (0, .ref h), (1, .int (nI ka)), (2, .int (nI kb))]) hx hb dX2_and_116 hl (k := 0) rfl (n_inc _) (by decide) rfl (fun ls hl => ?_)
                            refine lv_goto (tgt := 79) hx hb dX2_and_119 (by decide) ?_
                            have hno3 : ∀ i, i < j + 1 → ¬ nAt l i = some (kb, ka) := by
                              intro i hi hz
                              by_cases hij : i = j
                              · subst hij
                                first | exact c96 (by rw [hz]; rfl) | exact c108 (by rw [hz]; rfl)
                              · exact hno2 i (by omega) hz
                            exact ih (j + 1) (by omega) (by omega) hno3 (by omega) _ _ _ hP hD hS (lv_sub hl [0, 1, 2, 3, 4, 5] rfl)
                          · refine lv_aload_n hx hb dX2_and_99 rfl (lv_at hl 3 rfl) ?_
                            refine va_get (D := D) (ci := 2) (v := .ref a2) (C := RX2) (T := TX2) (N := 5) hx hb hts hiX2 hown hK hP 0 rfl rfl 1 (by decide) wf15 (fun _ h9 => h9) rfl dX2_and_100 ?_
                            refine lv_iload hx hb dX2_and_103 (lv_at hl 0 rfl) ?_
                            refine x_iald hx hb hK hP 2 0 rfl rfl (by omega) (by omega) dX2_and_105 ?_
                            refine x_top (show of j = gR (nAt l j) from (hrp j (by omega)).2) ?_
                            refine lv_iload hx hb dX2_and_106 (lv_at hl 1 rfl) ?_
                            refine lv_icmp_ne (tgt := 116) hx hb dX2_and_108 (by decide) (fun c108 => ?_) (fun c108 => ?_)
                            · refine lv_iinc (v := nI (j + 1)) (lv' := [(5, .int (nI (j + 1))), (4, .int (nI ka)), (3, .int (nI kb)), (0, .ref h), (1, .int (nI ka)), (2, .int (nI kb))]) hx hb dX2_and_116 hl (k := 0) rfl (n_inc _) (by decide) rfl (fun ls hl => ?_)
                              refine lv_goto (tgt := 79) hx hb dX2_and_119 (by decide) ?_
                              have hno3 : ∀ i, i < j + 1 → ¬ nAt l i = some (kb, ka) := by
                                intro i hi hz
                                by_cases hij : i = j
                                · subst hij
                                  first | exact c96 (by rw [hz]; rfl) | exact c108 (by rw [hz]; rfl)
                                · exact hno2 i (by omega) hz
                              exact ih (j + 1) (by omega) (by omega) hno3 (by omega) _ _ _ hP hD hS (lv_sub hl [0, 1, 2, 3, 4, 5] rfl)
                            · refine lv_iconst (v := nI 2) hx hb dX2_and_111 (by decide) ?_
                              refine lv_iload hx hb dX2_and_112 (lv_at hl 0 rfl) ?_
                              refine lv_imul hx hb dX2_and_114 ?_
                              refine x_top (pk_mul _ _) ?_
                              rw [nAnd_h hno hn2 c48 (by omega), nGate_f (nFind_some (g_is hok (by omega) (by omega) (by omega) c96 c108) hno2)] at hQ
                              exact x_iret hQ hAe hx hb hr hlocks (rfl) hS hK (Nat.zero_le _) (Nat.zero_le _) dX2_and_115 (a1, a2, cap, lf, of) hP hD (⟨rfl, (if_pos hcl).symm, hrp⟩)
                    exact lp79 _ 1 (Nat.le_refl _) (by have := hok.1; omega) (fun i hi hz => by rw [show i = 0 by omega, hok.2.1] at hz; cases hz) (Nat.lt_succ_self _) _ _ _ hP hD hS (lv_sub hl [0, 1, 2, 3, 4, 5] rfl)
                  · have c55 := mt (nI_leI (by omega) (by omega)).mpr c55
                    refine lv_iload_n hx hb dX2_and_58 rfl (lv_at hl 1 rfl) ?_
                    refine lv_goto (tgt := 63) hx hb dX2_and_59 (by decide) ?_
                    refine lv_istore_n (lv' := [(3, .int (nI ka)), (0, .ref h), (1, .int (nI ka)), (2, .int (nI kb))]) hx hb dX2_and_63 rfl hl (by decide) rfl (fun ls hl => ?_)
                    refine lv_iload_n hx hb dX2_and_64 rfl (lv_at hl 2 rfl) ?_
                    refine lv_iload_n hx hb dX2_and_65 rfl (lv_at hl 3 rfl) ?_
                    refine lv_icmp_ge (tgt := 73) hx hb dX2_and_66 (by decide) (fun c66 => absurd c66 (mt (nI_leI (by omega) (by omega)).mp c55)) (fun c66 => ?_)
                    refine lv_iload_n hx hb dX2_and_69 rfl (lv_at hl 3 rfl) ?_
                    refine lv_goto (tgt := 74) hx hb dX2_and_70 (by decide) ?_
                    refine lv_istore (lv' := [(4, .int (nI kb)), (3, .int (nI ka)), (0, .ref h), (1, .int (nI ka)), (2, .int (nI kb))]) hx hb dX2_and_74 hl (by decide) rfl (fun ls hl => ?_)
                    refine lv_iconst (v := nI 1) hx hb dX2_and_76 (by decide) ?_
                    refine lv_istore (lv' := [(5, .int (nI 1)), (4, .int (nI kb)), (3, .int (nI ka)), (0, .ref h), (1, .int (nI ka)), (2, .int (nI kb))]) hx hb dX2_and_77 hl (by decide) rfl (fun ls hl => ?_)
                    have lp79 : ∀ n : Nat, ∀ (j : Nat) (hj0 : 1 ≤ j) (hj1 : j ≤ l.length) (hno2 : ∀ i, i < j → ¬ nAt l i = some (ka, kb)) (hme : l.length - j < n) (H : Heap) (locs : List Loc) (ls : Array Slot), va_P D vwCl [(h, .inr (2, [.ref a1, .ref a2, .int (nI l.length), .int (nI (nGates l)), .int (nI M)])), (a1, .inl (cyI, cap, .inl lf)), (a2, .inl (cyI, cap, .inl of))] H → va_D A [(h, .inr (2, [.ref a1, .ref a2, .int (nI l.length), .int (nI (nGates l)), .int (nI M)])), (a1, .inl (cyI, cap, .inl lf)), (a2, .inl (cyI, cap, .inl of))] → va_S A s.heap H locs → lv_has ls 6 [(5, .int (nI j)), (4, .int (nI kb)), (3, .int (nI ka)), (0, .ref h), (1, .int (nI ka)), (2, .int (nI kb))] → W p lch e ({ frames := 3, cells := cst 2 (nAnd M l (some ka) (some kb)).2.length cap, slots := cst (4 * cap) (nAnd M l (some ka) (some kb)).2.length cap, locals := 83 } : Room) s m ([.ref h, .int (eO (some ka)), .int (eO (some kb))] : List Value).toArray below meth c H locs 0 0 Q (F0 m 79 ls []) := by
                      intro n
                      induction n with
                      | zero => intro j hj0 hj1 hno2 hme H locs ls hP hD hS hl; exact absurd hme (Nat.not_lt_zero _)
                      | succ n ih =>
                        intro j hj0 hj1 hno2 hme H locs ls hP hD hS hl
                        refine lv_iload hx hb dX2_and_79 (lv_at hl 0 rfl) ?_
                        refine lv_aload_n hx hb dX2_and_81 rfl (lv_at hl 3 rfl) ?_
                        refine va_get (D := D) (ci := 2) (v := .int (nI l.length)) (C := RX2) (T := TX2) (N := 5) hx hb hts hiX2 hown hK hP 0 rfl rfl 2 (by decide) wf25 (fun _ h9 => h9) rfl dX2_and_82 ?_
                        refine lv_icmp_ge (tgt := 122) hx hb dX2_and_85 (by decide) (fun c85 => ?_) (fun c85 => ?_)
                        · have c85 := (nI_leI (by omega) (by omega)).mp c85
                          refine lv_aload_n hx hb dX2_and_122 rfl (lv_at hl 3 rfl) ?_
                          refine va_get (D := D) (ci := 2) (v := .int (nI (nGates l))) (C := RX2) (T := TX2) (N := 5) hx hb hts hiX2 hown hK hP 0 rfl rfl 3 (by decide) wf28 (fun _ h9 => h9) rfl dX2_and_123 ?_
                          refine lv_aload_n hx hb dX2_and_126 rfl (lv_at hl 3 rfl) ?_
                          refine va_get (D := D) (ci := 2) (v := .int (nI M)) (C := RX2) (T := TX2) (N := 5) hx hb hts hiX2 hown hK hP 0 rfl rfl 4 (by decide) wf18 (fun _ h9 => h9) rfl dX2_and_127 ?_
                          refine lv_icmp_ne (tgt := 135) hx hb dX2_and_130 (by decide) (fun c130 => ?_) (fun c130 => ?_)
                          · have c130 := mt (nI_eq (by omega) (by omega)).mpr c130
                            refine lv_aload_n hx hb dX2_and_135 rfl (lv_at hl 3 rfl) ?_
                            refine lv_dup hx hb dX2_and_136 rfl ?_
                            refine va_get (D := D) (ci := 2) (v := .int (nI (nGates l))) (C := RX2) (T := TX2) (N := 5) hx hb hts hiX2 hown hK hP 0 rfl rfl 3 (by decide) wf28 (fun _ h9 => h9) rfl dX2_and_137 ?_
                            refine lv_iconst (v := nI 1) hx hb dX2_and_140 (by decide) ?_
                            refine lv_iadd hx hb dX2_and_141 ?_
                            refine x_top (nI_add _ _) ?_
                            refine va_put (D := D) (ci := 2) (v := .int (nI (nGates l + 1))) (ty := .int) (C := RX2) (T := TX2) (N := 5) hx hb hts hiX2 tyX2 tyX2_ok nmX2 hown hK hP hD hS 0 rfl rfl 3 (by decide) wf28 (fun _ h9 => h9) rfl (by decide +kernel) rfl rfl (Nat.le_of_ble_eq_true rfl) dX2_and_142 (fun H locs hP hD hS => ?_)
                            have hP : va_P D vwCl [(h, .inr (2, [.ref a1, .ref a2, .int (nI l.length), .int (nI (nGates l + 1)), .int (nI M)])), (a1, .inl (cyI, cap, .inl lf)), (a2, .inl (cyI, cap, .inl of))] H := hP
                            have hD : va_D A [(h, .inr (2, [.ref a1, .ref a2, .int (nI l.length), .int (nI (nGates l + 1)), .int (nI M)])), (a1, .inl (cyI, cap, .inl lf)), (a2, .inl (cyI, cap, .inl of))] := hD
                            refine lv_iconst (v := nI 2) hx hb dX2_and_145 (by decide) ?_
                            refine lv_aload_n hx hb dX2_and_146 rfl (lv_at hl 3 rfl) ?_
                            refine lv_iload_n hx hb dX2_and_147 rfl (lv_at hl 2 rfl) ?_
                            refine lv_iload hx hb dX2_and_148 (lv_at hl 1 rfl) ?_
                            have eG : nAnd M l (some ka) (some kb) = (some (2 * l.length), l ++ [some (ka, kb)]) := by rw [nAnd_g hno hn2 c48 (by omega), nGate_n (nFind_none (fun i hi => hno2 i (by omega))) c130]
                            have eL : (nAnd M l (some ka) (some kb)).2.length = l.length + 1 := by rw [eG]; simp
                            have e2 : l.length + 1 = (l ++ [some (ka, kb)]).length := by simp
                            have e3 : nGates l + 1 = nGates (l ++ [some (ka, kb)]) := (nGates_snoc l ka kb).symm
                            refine x_calli (wc := [(h, .inr (2, [.ref a1, .ref a2, .int (nI l.length), .int (nI (nGates l + 1)), .int (nI M)])), (a1, .inl (cyI, cap, .inl lf)), (a2, .inl (cyI, cap, .inl of))]) (wr := []) (w2 := fun (u : Nat × Nat × Nat × (Nat → Int32) × (Nat → Int32)) => [(h, .inr (2, [.ref u.1, .ref u.2.1, .int (nI (l.length + 1)), .int (nI (nGates l + 1)), .int (nI M)])), (u.1, .inl (cyI, u.2.2.1, .inl u.2.2.2.1)), (u.2.1, .inl (cyI, u.2.2.1, .inl u.2.2.2.2))]) [0, 1, 2] [] [0, 1, 2] (va_runV (As := [.int (nI ka), .int (nI kb)]) (rest := [.int (nI 2)]) ⟨hx, hb, hml, hown, hts⟩ (c_X2_add lch D cyI cyJ _ h a1 a2 cap lf of l.length (nGates l + 1) M (nI ka) (nI kb) (by first | assumption | omega) (by first | assumption | omega) (by first | assumption | omega)) (cwV 2 hts gX2_and_X2_add rfl rfl rfl (by decide +kernel) ⟨Nat.le_of_ble_eq_true rfl, Nat.le_of_ble_eq_true rfl⟩) (x_preV hK hNN (hP.sub (ws' := [(h, .inr (2, [.ref a1, .ref a2, .int (nI l.length), .int (nI (nGates l + 1)), .int (nI M)])), (a1, .inl (cyI, cap, .inl lf)), (a2, .inl (cyI, cap, .inl of))]) [0, 1, 2] rfl) (hD.sub (ws' := [(h, .inr (2, [.ref a1, .ref a2, .int (nI l.length), .int (nI (nGates l + 1)), .int (nI M)])), (a1, .inl (cyI, cap, .inl lf)), (a2, .inl (cyI, cap, .inl of))]) [0, 1, 2] (by decide) rfl) rfl rfl (ci := 2) (q0 := 0) rfl rfl rfl) rfl rfl hl.1 rfl (lv_room (Nat.le_of_ble_eq_true rfl)) dX2_and_150 ⟨by dsimp only; rw [eL, Nat.zero_add]; exact Nat.le_refl _, by dsimp only; rw [eL, Nat.zero_add]; exact Nat.le_refl _⟩) rfl hP hD hS hA rfl rfl (by decide) (by decide) (fun _ => rfl) (by decide) (fun r150 u150 H locs hw150 hP hD hS hz150 => ?_)
                            obtain ⟨b1, b2, cap2, p150, q150⟩ := u150
                            have hP : va_P D vwCl [(h, .inr (2, [.ref b1, .ref b2, .int (nI (l.length + 1)), .int (nI (nGates l + 1)), .int (nI M)])), (b1, .inl (cyI, cap2, .inl p150)), (b2, .inl (cyI, cap2, .inl q150))] H := hP
                            have hD : va_D A [(h, .inr (2, [.ref b1, .ref b2, .int (nI (l.length + 1)), .int (nI (nGates l + 1)), .int (nI M)])), (b1, .inl (cyI, cap2, .inl p150)), (b2, .inl (cyI, cap2, .inl q150))] := hD
                            have hw150 : r150 = nI l.length ∧ cap2 = cp (l.length + 1) cap ∧ (∀ k, k ≤ l.length → p150 k = upd lf l.length (nI ka) k) ∧ (∀ k, k ≤ l.length → q150 k = upd of l.length (nI kb) k) := hw150
                            obtain ⟨rfl, w1, w2, w3⟩ := hw150
                            rw [e2, e3] at hP hD
                            refine lv_imul hx hb dX2_and_153 ?_
                            refine x_top (pk_mul _ _) ?_
                            rw [eG] at hQ
                            exact x_iret hQ hAe hx hb hr hlocks (rfl) hS hK (by rw [Nat.zero_add]; exact Nat.le_of_eq (congrArg (fun n => cst 2 n cap) e2)) (by rw [Nat.zero_add]; exact Nat.le_of_eq (congrArg (fun n => cst (4 * cap) n cap) e2)) dX2_and_154 (b1, b2, cap2, p150, q150) hP hD (⟨rfl, w1.trans (congrArg (fun n => cp n cap) e2), rp_sn2 hrp w2 w3⟩)
                          · have c130 := (nI_eq (by omega) (by omega)).mp c130
                            refine lv_iconst (v := (-1)) hx hb dX2_and_133 (by decide) ?_
                            rw [nAnd_g hno hn2 c48 (by omega), nGate_o (nFind_none (fun i hi => hno2 i (by omega))) c130] at hQ
                            exact x_iret hQ hAe hx hb hr hlocks (rfl) hS hK (Nat.zero_le _) (Nat.zero_le _) dX2_and_134 (a1, a2, cap, lf, of) hP hD (⟨rfl, (if_pos hcl).symm, hrp⟩)
                        · have c85 := mt (nI_leI (by omega) (by omega)).mpr c85
                          refine lv_aload_n hx hb dX2_and_88 rfl (lv_at hl 3 rfl) ?_
                          refine va_get (D := D) (ci := 2) (v := .ref a1) (C := RX2) (T := TX2) (N := 5) hx hb hts hiX2 hown hK hP 0 rfl rfl 0 (by decide) wf9 (fun _ h9 => h9) rfl dX2_and_89 ?_
                          refine lv_iload hx hb dX2_and_92 (lv_at hl 0 rfl) ?_
                          refine x_iald hx hb hK hP 1 0 rfl rfl (by omega) (by omega) dX2_and_94 ?_
                          refine x_top (show lf j = gL (nAt l j) from (hrp j (by omega)).1) ?_
                          refine lv_iload_n hx hb dX2_and_95 rfl (lv_at hl 2 rfl) ?_
                          refine lv_icmp_ne (tgt := 116) hx hb dX2_and_96 (by decide) (fun c96 => ?_) (fun c96 => ?_)
                          · refine lv_iinc (v := nI (j + 1)) (lv' := [(5, .int (nI (j + 1))), (4, .int (nI kb)), (3, .int (nI ka)), (0, .ref h), (1, .int (nI ka)), (2, .int (nI kb))]) hx hb dX2_and_116 hl (k := 0) rfl (n_inc _) (by decide) rfl (fun ls hl => ?_)
                            refine lv_goto (tgt := 79) hx hb dX2_and_119 (by decide) ?_
                            have hno3 : ∀ i, i < j + 1 → ¬ nAt l i = some (ka, kb) := by
                              intro i hi hz
                              by_cases hij : i = j
                              · subst hij
                                first | exact c96 (by rw [hz]; rfl) | exact c108 (by rw [hz]; rfl)
                              · exact hno2 i (by omega) hz
                            exact ih (j + 1) (by omega) (by omega) hno3 (by omega) _ _ _ hP hD hS (lv_sub hl [0, 1, 2, 3, 4, 5] rfl)
                          · refine lv_aload_n hx hb dX2_and_99 rfl (lv_at hl 3 rfl) ?_
                            refine va_get (D := D) (ci := 2) (v := .ref a2) (C := RX2) (T := TX2) (N := 5) hx hb hts hiX2 hown hK hP 0 rfl rfl 1 (by decide) wf15 (fun _ h9 => h9) rfl dX2_and_100 ?_
                            refine lv_iload hx hb dX2_and_103 (lv_at hl 0 rfl) ?_
                            refine x_iald hx hb hK hP 2 0 rfl rfl (by omega) (by omega) dX2_and_105 ?_
                            refine x_top (show of j = gR (nAt l j) from (hrp j (by omega)).2) ?_
                            refine lv_iload hx hb dX2_and_106 (lv_at hl 1 rfl) ?_
                            refine lv_icmp_ne (tgt := 116) hx hb dX2_and_108 (by decide) (fun c108 => ?_) (fun c108 => ?_)
                            · refine lv_iinc (v := nI (j + 1)) (lv' := [(5, .int (nI (j + 1))), (4, .int (nI kb)), (3, .int (nI ka)), (0, .ref h), (1, .int (nI ka)), (2, .int (nI kb))]) hx hb dX2_and_116 hl (k := 0) rfl (n_inc _) (by decide) rfl (fun ls hl => ?_)
                              refine lv_goto (tgt := 79) hx hb dX2_and_119 (by decide) ?_
                              have hno3 : ∀ i, i < j + 1 → ¬ nAt l i = some (ka, kb) := by
                                intro i hi hz
                                by_cases hij : i = j
                                · subst hij
                                  first | exact c96 (by rw [hz]; rfl) | exact c108 (by rw [hz]; rfl)
                                · exact hno2 i (by omega) hz
                              exact ih (j + 1) (by omega) (by omega) hno3 (by omega) _ _ _ hP hD hS (lv_sub hl [0, 1, 2, 3, 4, 5] rfl)
                            · refine lv_iconst (v := nI 2) hx hb dX2_and_111 (by decide) ?_
                              refine lv_iload hx hb dX2_and_112 (lv_at hl 0 rfl) ?_
                              refine lv_imul hx hb dX2_and_114 ?_
                              refine x_top (pk_mul _ _) ?_
                              rw [nAnd_g hno hn2 c48 (by omega), nGate_f (nFind_some (g_is hok (by omega) (by omega) (by omega) c96 c108) hno2)] at hQ
                              exact x_iret hQ hAe hx hb hr hlocks (rfl) hS hK (Nat.zero_le _) (Nat.zero_le _) dX2_and_115 (a1, a2, cap, lf, of) hP hD (⟨rfl, (if_pos hcl).symm, hrp⟩)
                    exact lp79 _ 1 (Nat.le_refl _) (by have := hok.1; omega) (fun i hi hz => by rw [show i = 0 by omega, hok.2.1] at hz; cases hz) (Nat.lt_succ_self _) _ _ _ hP hD hS (lv_sub hl [0, 1, 2, 3, 4, 5] rfl)
                · have c48 := (nI_eq (by omega) (by omega)).mp c48
                  refine lv_iload_n hx hb dX2_and_51 rfl (lv_at hl 2 rfl) ?_
                  rw [nAnd_b hno hn2 c48] at hQ
                  exact x_iret hQ hAe hx hb hr hlocks (rfl) hS hK (Nat.zero_le _) (Nat.zero_le _) dX2_and_52 (a1, a2, cap, lf, of) hP hD (⟨rfl, (if_pos hcl).symm, hrp⟩)
              · have c41 := (nI_eq (by omega) (by omega)).mp c41
                refine lv_iload_n hx hb dX2_and_44 rfl (lv_at hl 1 rfl) ?_
                rw [nAnd_a hno (by first | exact Or.inl c36 | exact Or.inr c41)] at hQ
                exact x_iret hQ hAe hx hb hr hlocks (rfl) hS hK (Nat.zero_le _) (Nat.zero_le _) dX2_and_45 (a1, a2, cap, lf, of) hP hD (⟨rfl, (if_pos hcl).symm, hrp⟩)
          · have c24 := (nI_eq (by omega) (by omega)).mp c24
            refine lv_iload_n hx hb dX2_and_27 rfl (lv_at hl 1 rfl) ?_
            refine lv_iload_n hx hb dX2_and_28 rfl (lv_at hl 2 rfl) ?_
            refine lv_icmp_eq (tgt := 34) hx hb dX2_and_29 (by decide) (fun c29 => ?_) (fun c29 => ?_)
            · have c29 := (nI_eq (by omega) (by omega)).mp c29
              have hno : ¬ (ka = 0 ∨ kb = 0 ∨ ka = nNeg kb) := fun z => z.elim c11 (fun z => z.elim c15 (fun z => by have q := (nNeg_iff _ _).mp z; first | exact c24 q.1 | exact q.2 c29))
              refine lv_iload_n hx hb dX2_and_34 rfl (lv_at hl 2 rfl) ?_
              refine lv_iconst (v := nI 1) hx hb dX2_and_35 (by decide) ?_
              refine lv_icmp_eq (tgt := 44) hx hb dX2_and_36 (by decide) (fun c36 => ?_) (fun c36 => ?_)
              · have c36 := (nI_eq (by omega) (by omega)).mp c36
                refine lv_iload_n hx hb dX2_and_44 rfl (lv_at hl 1 rfl) ?_
                rw [nAnd_a hno (by first | exact Or.inl c36 | exact Or.inr c41)] at hQ
                exact x_iret hQ hAe hx hb hr hlocks (rfl) hS hK (Nat.zero_le _) (Nat.zero_le _) dX2_and_45 (a1, a2, cap, lf, of) hP hD (⟨rfl, (if_pos hcl).symm, hrp⟩)
              · have c36 := mt (nI_eq (by omega) (by omega)).mpr c36
                refine lv_iload_n hx hb dX2_and_39 rfl (lv_at hl 1 rfl) ?_
                refine lv_iload_n hx hb dX2_and_40 rfl (lv_at hl 2 rfl) ?_
                refine lv_icmp_ne (tgt := 46) hx hb dX2_and_41 (by decide) (fun c41 => ?_) (fun c41 => ?_)
                · have c41 := mt (nI_eq (by omega) (by omega)).mpr c41
                  have hn2 : ¬ (kb = 1 ∨ ka = kb) := fun z => z.elim c36 c41
                  refine lv_iload_n hx hb dX2_and_46 rfl (lv_at hl 1 rfl) ?_
                  refine lv_iconst (v := nI 1) hx hb dX2_and_47 (by decide) ?_
                  refine lv_icmp_ne (tgt := 53) hx hb dX2_and_48 (by decide) (fun c48 => ?_) (fun c48 => ?_)
                  · have c48 := mt (nI_eq (by omega) (by omega)).mpr c48
                    refine lv_iload_n hx hb dX2_and_53 rfl (lv_at hl 1 rfl) ?_
                    refine lv_iload_n hx hb dX2_and_54 rfl (lv_at hl 2 rfl) ?_
                    refine lv_icmp_ge (tgt := 62) hx hb dX2_and_55 (by decide) (fun c55 => ?_) (fun c55 => ?_)
                    · have c55 := (nI_leI (by omega) (by omega)).mp c55
                      refine lv_iload_n hx hb dX2_and_62 rfl (lv_at hl 2 rfl) ?_
                      refine lv_istore_n (lv' := [(3, .int (nI kb)), (0, .ref h), (1, .int (nI ka)), (2, .int (nI kb))]) hx hb dX2_and_63 rfl hl (by decide) rfl (fun ls hl => ?_)
                      refine lv_iload_n hx hb dX2_and_64 rfl (lv_at hl 2 rfl) ?_
                      refine lv_iload_n hx hb dX2_and_65 rfl (lv_at hl 3 rfl) ?_
                      refine lv_icmp_ge (tgt := 73) hx hb dX2_and_66 (by decide) (fun c66 => ?_) (fun c66 => absurd ((nI_leI (by omega) (by omega)).mpr c55) c66)
                      refine lv_iload_n hx hb dX2_and_73 rfl (lv_at hl 2 rfl) ?_
                      refine lv_istore (lv' := [(4, .int (nI ka)), (3, .int (nI kb)), (0, .ref h), (1, .int (nI ka)), (2, .int (nI kb))]) hx hb dX2_and_74 hl (by decide) rfl (fun ls hl => ?_)
                      refine lv_iconst (v := nI 1) hx hb dX2_and_76 (by decide) ?_
                      refine lv_istore (lv' := [(5, .int (nI 1)), (4, .int (nI ka)), (3, .int (nI kb)), (0, .ref h), (1, .int (nI ka)), (2, .int (nI kb))]) hx hb dX2_and_77 hl (by decide) rfl (fun ls hl => ?_)
                      have lp79 : ∀ n : Nat, ∀ (j : Nat) (hj0 : 1 ≤ j) (hj1 : j ≤ l.length) (hno2 : ∀ i, i < j → ¬ nAt l i = some (kb, ka)) (hme : l.length - j < n) (H : Heap) (locs : List Loc) (ls : Array Slot), va_P D vwCl [(h, .inr (2, [.ref a1, .ref a2, .int (nI l.length), .int (nI (nGates l)), .int (nI M)])), (a1, .inl (cyI, cap, .inl lf)), (a2, .inl (cyI, cap, .inl of))] H → va_D A [(h, .inr (2, [.ref a1, .ref a2, .int (nI l.length), .int (nI (nGates l)), .int (nI M)])), (a1, .inl (cyI, cap, .inl lf)), (a2, .inl (cyI, cap, .inl of))] → va_S A s.heap H locs → lv_has ls 6 [(5, .int (nI j)), (4, .int (nI ka)), (3, .int (nI kb)), (0, .ref h), (1, .int (nI ka)), (2, .int (nI kb))] → W p lch e ({ frames := 3, cells := cst 2 (nAnd M l (some ka) (some kb)).2.length cap, slots := cst (4 * cap) (nAnd M l (some ka) (some kb)).2.length cap, locals := 83 } : Room) s m ([.ref h, .int (eO (some ka)), .int (eO (some kb))] : List Value).toArray below meth c H locs 0 0 Q (F0 m 79 ls []) := by
                        intro n
                        induction n with
                        | zero => intro j hj0 hj1 hno2 hme H locs ls hP hD hS hl; exact absurd hme (Nat.not_lt_zero _)
                        | succ n ih =>
                          intro j hj0 hj1 hno2 hme H locs ls hP hD hS hl
                          refine lv_iload hx hb dX2_and_79 (lv_at hl 0 rfl) ?_
                          refine lv_aload_n hx hb dX2_and_81 rfl (lv_at hl 3 rfl) ?_
                          refine va_get (D := D) (ci := 2) (v := .int (nI l.length)) (C := RX2) (T := TX2) (N := 5) hx hb hts hiX2 hown hK hP 0 rfl rfl 2 (by decide) wf25 (fun _ h9 => h9) rfl dX2_and_82 ?_
                          refine lv_icmp_ge (tgt := 122) hx hb dX2_and_85 (by decide) (fun c85 => ?_) (fun c85 => ?_)
                          · have c85 := (nI_leI (by omega) (by omega)).mp c85
                            refine lv_aload_n hx hb dX2_and_122 rfl (lv_at hl 3 rfl) ?_
                            refine va_get (D := D) (ci := 2) (v := .int (nI (nGates l))) (C := RX2) (T := TX2) (N := 5) hx hb hts hiX2 hown hK hP 0 rfl rfl 3 (by decide) wf28 (fun _ h9 => h9) rfl dX2_and_123 ?_
                            refine lv_aload_n hx hb dX2_and_126 rfl (lv_at hl 3 rfl) ?_
                            refine va_get (D := D) (ci := 2) (v := .int (nI M)) (C := RX2) (T := TX2) (N := 5) hx hb hts hiX2 hown hK hP 0 rfl rfl 4 (by decide) wf18 (fun _ h9 => h9) rfl dX2_and_127 ?_
                            refine lv_icmp_ne (tgt := 135) hx hb dX2_and_130 (by decide) (fun c130 => ?_) (fun c130 => ?_)
                            · have c130 := mt (nI_eq (by omega) (by omega)).mpr c130
                              refine lv_aload_n hx hb dX2_and_135 rfl (lv_at hl 3 rfl) ?_
                              refine lv_dup hx hb dX2_and_136 rfl ?_
                              refine va_get (D := D) (ci := 2) (v := .int (nI (nGates l))) (C := RX2) (T := TX2) (N := 5) hx hb hts hiX2 hown hK hP 0 rfl rfl 3 (by decide) wf28 (fun _ h9 => h9) rfl dX2_and_137 ?_
                              refine lv_iconst (v := nI 1) hx hb dX2_and_140 (by decide) ?_
                              refine lv_iadd hx hb dX2_and_141 ?_
                              refine x_top (nI_add _ _) ?_
                              refine va_put (D := D) (ci := 2) (v := .int (nI (nGates l + 1))) (ty := .int) (C := RX2) (T := TX2) (N := 5) hx hb hts hiX2 tyX2 tyX2_ok nmX2 hown hK hP hD hS 0 rfl rfl 3 (by decide) wf28 (fun _ h9 => h9) rfl (by decide +kernel) rfl rfl (Nat.le_of_ble_eq_true rfl) dX2_and_142 (fun H locs hP hD hS => ?_)
                              have hP : va_P D vwCl [(h, .inr (2, [.ref a1, .ref a2, .int (nI l.length), .int (nI (nGates l + 1)), .int (nI M)])), (a1, .inl (cyI, cap, .inl lf)), (a2, .inl (cyI, cap, .inl of))] H := hP
                              have hD : va_D A [(h, .inr (2, [.ref a1, .ref a2, .int (nI l.length), .int (nI (nGates l + 1)), .int (nI M)])), (a1, .inl (cyI, cap, .inl lf)), (a2, .inl (cyI, cap, .inl of))] := hD
                              refine lv_iconst (v := nI 2) hx hb dX2_and_145 (by decide) ?_
                              refine lv_aload_n hx hb dX2_and_146 rfl (lv_at hl 3 rfl) ?_
                              refine lv_iload_n hx hb dX2_and_147 rfl (lv_at hl 2 rfl) ?_
                              refine lv_iload hx hb dX2_and_148 (lv_at hl 1 rfl) ?_
                              have eG : nAnd M l (some ka) (some kb) = (some (2 * l.length), l ++ [some (kb, ka)]) := by rw [nAnd_h hno hn2 c48 (by omega), nGate_n (nFind_none (fun i hi => hno2 i (by omega))) c130]
                              have eL : (nAnd M l (some ka) (some kb)).2.length = l.length + 1 := by rw [eG]; simp
                              have e2 : l.length + 1 = (l ++ [some (kb, ka)]).length := by simp
                              have e3 : nGates l + 1 = nGates (l ++ [some (kb, ka)]) := (nGates_snoc l kb ka).symm
                              refine x_calli (wc := [(h, .inr (2, [.ref a1, .ref a2, .int (nI l.length), .int (nI (nGates l + 1)), .int (nI M)])), (a1, .inl (cyI, cap, .inl lf)), (a2, .inl (cyI, cap, .inl of))]) (wr := []) (w2 := fun (u : Nat × Nat × Nat × (Nat → Int32) × (Nat → Int32)) => [(h, .inr (2, [.ref u.1, .ref u.2.1, .int (nI (l.length + 1)), .int (nI (nGates l + 1)), .int (nI M)])), (u.1, .inl (cyI, u.2.2.1, .inl u.2.2.2.1)), (u.2.1, .inl (cyI, u.2.2.1, .inl u.2.2.2.2))]) [0, 1, 2] [] [0, 1, 2] (va_runV (As := [.int (nI kb), .int (nI ka)]) (rest := [.int (nI 2)]) ⟨hx, hb, hml, hown, hts⟩ (c_X2_add lch D cyI cyJ _ h a1 a2 cap lf of l.length (nGates l + 1) M (nI kb) (nI ka) (by first | assumption | omega) (by first | assumption | omega) (by first | assumption | omega)) (cwV 2 hts gX2_and_X2_add rfl rfl rfl (by decide +kernel) ⟨Nat.le_of_ble_eq_true rfl, Nat.le_of_ble_eq_true rfl⟩) (x_preV hK hNN (hP.sub (ws' := [(h, .inr (2, [.ref a1, .ref a2, .int (nI l.length), .int (nI (nGates l + 1)), .int (nI M)])), (a1, .inl (cyI, cap, .inl lf)), (a2, .inl (cyI, cap, .inl of))]) [0, 1, 2] rfl) (hD.sub (ws' := [(h, .inr (2, [.ref a1, .ref a2, .int (nI l.length), .int (nI (nGates l + 1)), .int (nI M)])), (a1, .inl (cyI, cap, .inl lf)), (a2, .inl (cyI, cap, .inl of))]) [0, 1, 2] (by decide) rfl) rfl rfl (ci := 2) (q0 := 0) rfl rfl rfl) rfl rfl hl.1 rfl (lv_room (Nat.le_of_ble_eq_true rfl)) dX2_and_150 ⟨by dsimp only; rw [eL, Nat.zero_add]; exact Nat.le_refl _, by dsimp only; rw [eL, Nat.zero_add]; exact Nat.le_refl _⟩) rfl hP hD hS hA rfl rfl (by decide) (by decide) (fun _ => rfl) (by decide) (fun r150 u150 H locs hw150 hP hD hS hz150 => ?_)
                              obtain ⟨b1, b2, cap2, p150, q150⟩ := u150
                              have hP : va_P D vwCl [(h, .inr (2, [.ref b1, .ref b2, .int (nI (l.length + 1)), .int (nI (nGates l + 1)), .int (nI M)])), (b1, .inl (cyI, cap2, .inl p150)), (b2, .inl (cyI, cap2, .inl q150))] H := hP
                              have hD : va_D A [(h, .inr (2, [.ref b1, .ref b2, .int (nI (l.length + 1)), .int (nI (nGates l + 1)), .int (nI M)])), (b1, .inl (cyI, cap2, .inl p150)), (b2, .inl (cyI, cap2, .inl q150))] := hD
                              have hw150 : r150 = nI l.length ∧ cap2 = cp (l.length + 1) cap ∧ (∀ k, k ≤ l.length → p150 k = upd lf l.length (nI kb) k) ∧ (∀ k, k ≤ l.length → q150 k = upd of l.length (nI ka) k) := hw150
                              obtain ⟨rfl, w1, w2, w3⟩ := hw150
                              rw [e2, e3] at hP hD
                              refine lv_imul hx hb dX2_and_153 ?_
                              refine x_top (pk_mul _ _) ?_
                              rw [eG] at hQ
                              exact x_iret hQ hAe hx hb hr hlocks (rfl) hS hK (by rw [Nat.zero_add]; exact Nat.le_of_eq (congrArg (fun n => cst 2 n cap) e2)) (by rw [Nat.zero_add]; exact Nat.le_of_eq (congrArg (fun n => cst (4 * cap) n cap) e2)) dX2_and_154 (b1, b2, cap2, p150, q150) hP hD (⟨rfl, w1.trans (congrArg (fun n => cp n cap) e2), rp_sn2 hrp w2 w3⟩)
                            · have c130 := (nI_eq (by omega) (by omega)).mp c130
                              refine lv_iconst (v := (-1)) hx hb dX2_and_133 (by decide) ?_
                              rw [nAnd_h hno hn2 c48 (by omega), nGate_o (nFind_none (fun i hi => hno2 i (by omega))) c130] at hQ
                              exact x_iret hQ hAe hx hb hr hlocks (rfl) hS hK (Nat.zero_le _) (Nat.zero_le _) dX2_and_134 (a1, a2, cap, lf, of) hP hD (⟨rfl, (if_pos hcl).symm, hrp⟩)
                          · have c85 := mt (nI_leI (by omega) (by omega)).mpr c85
                            refine lv_aload_n hx hb dX2_and_88 rfl (lv_at hl 3 rfl) ?_
                            refine va_get (D := D) (ci := 2) (v := .ref a1) (C := RX2) (T := TX2) (N := 5) hx hb hts hiX2 hown hK hP 0 rfl rfl 0 (by decide) wf9 (fun _ h9 => h9) rfl dX2_and_89 ?_
                            refine lv_iload hx hb dX2_and_92 (lv_at hl 0 rfl) ?_
                            refine x_iald hx hb hK hP 1 0 rfl rfl (by omega) (by omega) dX2_and_94 ?_
                            refine x_top (show lf j = gL (nAt l j) from (hrp j (by omega)).1) ?_
                            refine lv_iload_n hx hb dX2_and_95 rfl (lv_at hl 2 rfl) ?_
                            refine lv_icmp_ne (tgt := 116) hx hb dX2_and_96 (by decide) (fun c96 => ?_) (fun c96 => ?_)
                            · refine lv_iinc (v := nI (j + 1)) (lv' := [(5, .int (nI (j + 1))), (4, .int (nI ka)), (3, .int (nI kb)), (0, .ref h), (1, .int (nI ka)), (2, .int (nI kb))]) hx hb dX2_and_116 hl (k := 0) rfl (n_inc _) (by decide) rfl (fun ls hl => ?_)
                              refine lv_goto (tgt := 79) hx hb dX2_and_119 (by decide) ?_
                              have hno3 : ∀ i, i < j + 1 → ¬ nAt l i = some (kb, ka) := by
                                intro i hi hz
                                by_cases hij : i = j
                                · subst hij
                                  first | exact c96 (by rw [hz]; rfl) | exact c108 (by rw [hz]; rfl)
                                · exact hno2 i (by omega) hz
                              exact ih (j + 1) (by omega) (by omega) hno3 (by omega) _ _ _ hP hD hS (lv_sub hl [0, 1, 2, 3, 4, 5] rfl)
                            · refine lv_aload_n hx hb dX2_and_99 rfl (lv_at hl 3 rfl) ?_
                              refine va_get (D := D) (ci := 2) (v := .ref a2) (C := RX2) (T := TX2) (N := 5) hx hb hts hiX2 hown hK hP 0 rfl rfl 1 (by decide) wf15 (fun _ h9 => h9) rfl dX2_and_100 ?_
                              refine lv_iload hx hb dX2_and_103 (lv_at hl 0 rfl) ?_
                              refine x_iald hx hb hK hP 2 0 rfl rfl (by omega) (by omega) dX2_and_105 ?_
                              refine x_top (show of j = gR (nAt l j) from (hrp j (by omega)).2) ?_
                              refine lv_iload hx hb dX2_and_106 (lv_at hl 1 rfl) ?_
                              refine lv_icmp_ne (tgt := 116) hx hb dX2_and_108 (by decide) (fun c108 => ?_) (fun c108 => ?_)
                              · refine lv_iinc (v := nI (j + 1)) (lv' := [(5, .int (nI (j + 1))), (4, .int (nI ka)), (3, .int (nI kb)), (0, .ref h), (1, .int (nI ka)), (2, .int (nI kb))]) hx hb dX2_and_116 hl (k := 0) rfl (n_inc _) (by decide) rfl (fun ls hl => ?_)
                                refine lv_goto (tgt := 79) hx hb dX2_and_119 (by decide) ?_
                                have hno3 : ∀ i, i < j + 1 → ¬ nAt l i = some (kb, ka) := by
                                  intro i hi hz
                                  by_cases hij : i = j
                                  · subst hij
                                    first | exact c96 (by rw [hz]; rfl) | exact c108 (by rw [hz]; rfl)
                                  · exact hno2 i (by omega) hz
                                exact ih (j + 1) (by omega) (by omega) hno3 (by omega) _ _ _ hP hD hS (lv_sub hl [0, 1, 2, 3, 4, 5] rfl)
                              · refine lv_iconst (v := nI 2) hx hb dX2_and_111 (by decide) ?_
                                refine lv_iload hx hb dX2_and_112 (lv_at hl 0 rfl) ?_
                                refine lv_imul hx hb dX2_and_114 ?_
                                refine x_top (pk_mul _ _) ?_
                                rw [nAnd_h hno hn2 c48 (by omega), nGate_f (nFind_some (g_is hok (by omega) (by omega) (by omega) c96 c108) hno2)] at hQ
                                exact x_iret hQ hAe hx hb hr hlocks (rfl) hS hK (Nat.zero_le _) (Nat.zero_le _) dX2_and_115 (a1, a2, cap, lf, of) hP hD (⟨rfl, (if_pos hcl).symm, hrp⟩)
                      exact lp79 _ 1 (Nat.le_refl _) (by have := hok.1; omega) (fun i hi hz => by rw [show i = 0 by omega, hok.2.1] at hz; cases hz) (Nat.lt_succ_self _) _ _ _ hP hD hS (lv_sub hl [0, 1, 2, 3, 4, 5] rfl)
                    · have c55 := mt (nI_leI (by omega) (by omega)).mpr c55
                      refine lv_iload_n hx hb dX2_and_58 rfl (lv_at hl 1 rfl) ?_
                      refine lv_goto (tgt := 63) hx hb dX2_and_59 (by decide) ?_
                      refine lv_istore_n (lv' := [(3, .int (nI ka)), (0, .ref h), (1, .int (nI ka)), (2, .int (nI kb))]) hx hb dX2_and_63 rfl hl (by decide) rfl (fun ls hl => ?_)
                      refine lv_iload_n hx hb dX2_and_64 rfl (lv_at hl 2 rfl) ?_
                      refine lv_iload_n hx hb dX2_and_65 rfl (lv_at hl 3 rfl) ?_
                      refine lv_icmp_ge (tgt := 73) hx hb dX2_and_66 (by decide) (fun c66 => absurd c66 (mt (nI_leI (by omega) (by omega)).mp c55)) (fun c66 => ?_)
                      refine lv_iload_n hx hb dX2_and_69 rfl (lv_at hl 3 rfl) ?_
                      refine lv_goto (tgt := 74) hx hb dX2_and_70 (by decide) ?_
                      refine lv_istore (lv' := [(4, .int (nI kb)), (3, .int (nI ka)), (0, .ref h), (1, .int (nI ka)), (2, .int (nI kb))]) hx hb dX2_and_74 hl (by decide) rfl (fun ls hl => ?_)
                      refine lv_iconst (v := nI 1) hx hb dX2_and_76 (by decide) ?_
                      refine lv_istore (lv' := [(5, .int (nI 1)), (4, .int (nI kb)), (3, .int (nI ka)), (0, .ref h), (1, .int (nI ka)), (2, .int (nI kb))]) hx hb dX2_and_77 hl (by decide) rfl (fun ls hl => ?_)
                      have lp79 : ∀ n : Nat, ∀ (j : Nat) (hj0 : 1 ≤ j) (hj1 : j ≤ l.length) (hno2 : ∀ i, i < j → ¬ nAt l i = some (ka, kb)) (hme : l.length - j < n) (H : Heap) (locs : List Loc) (ls : Array Slot), va_P D vwCl [(h, .inr (2, [.ref a1, .ref a2, .int (nI l.length), .int (nI (nGates l)), .int (nI M)])), (a1, .inl (cyI, cap, .inl lf)), (a2, .inl (cyI, cap, .inl of))] H → va_D A [(h, .inr (2, [.ref a1, .ref a2, .int (nI l.length), .int (nI (nGates l)), .int (nI M)])), (a1, .inl (cyI, cap, .inl lf)), (a2, .inl (cyI, cap, .inl of))] → va_S A s.heap H locs → lv_has ls 6 [(5, .int (nI j)), (4, .int (nI kb)), (3, .int (nI ka)), (0, .ref h), (1, .int (nI ka)), (2, .int (nI kb))] → W p lch e ({ frames := 3, cells := cst 2 (nAnd M l (some ka) (some kb)).2.length cap, slots := cst (4 * cap) (nAnd M l (some ka) (some kb)).2.length cap, locals := 83 } : Room) s m ([.ref h, .int (eO (some ka)), .int (eO (some kb))] : List Value).toArray below meth c H locs 0 0 Q (F0 m 79 ls []) := by
                        intro n
                        induction n with
                        | zero => intro j hj0 hj1 hno2 hme H locs ls hP hD hS hl; exact absurd hme (Nat.not_lt_zero _)
                        | succ n ih =>
                          intro j hj0 hj1 hno2 hme H locs ls hP hD hS hl
                          refine lv_iload hx hb dX2_and_79 (lv_at hl 0 rfl) ?_
                          refine lv_aload_n hx hb dX2_and_81 rfl (lv_at hl 3 rfl) ?_
                          refine va_get (D := D) (ci := 2) (v := .int (nI l.length)) (C := RX2) (T := TX2) (N := 5) hx hb hts hiX2 hown hK hP 0 rfl rfl 2 (by decide) wf25 (fun _ h9 => h9) rfl dX2_and_82 ?_
                          refine lv_icmp_ge (tgt := 122) hx hb dX2_and_85 (by decide) (fun c85 => ?_) (fun c85 => ?_)
                          · have c85 := (nI_leI (by omega) (by omega)).mp c85
                            refine lv_aload_n hx hb dX2_and_122 rfl (lv_at hl 3 rfl) ?_
                            refine va_get (D := D) (ci := 2) (v := .int (nI (nGates l))) (C := RX2) (T := TX2) (N := 5) hx hb hts hiX2 hown hK hP 0 rfl rfl 3 (by decide) wf28 (fun _ h9 => h9) rfl dX2_and_123 ?_
                            refine lv_aload_n hx hb dX2_and_126 rfl (lv_at hl 3 rfl) ?_
                            refine va_get (D := D) (ci := 2) (v := .int (nI M)) (C := RX2) (T := TX2) (N := 5) hx hb hts hiX2 hown hK hP 0 rfl rfl 4 (by decide) wf18 (fun _ h9 => h9) rfl dX2_and_127 ?_
                            refine lv_icmp_ne (tgt := 135) hx hb dX2_and_130 (by decide) (fun c130 => ?_) (fun c130 => ?_)
                            · have c130 := mt (nI_eq (by omega) (by omega)).mpr c130
                              refine lv_aload_n hx hb dX2_and_135 rfl (lv_at hl 3 rfl) ?_
                              refine lv_dup hx hb dX2_and_136 rfl ?_
                              refine va_get (D := D) (ci := 2) (v := .int (nI (nGates l))) (C := RX2) (T := TX2) (N := 5) hx hb hts hiX2 hown hK hP 0 rfl rfl 3 (by decide) wf28 (fun _ h9 => h9) rfl dX2_and_137 ?_
                              refine lv_iconst (v := nI 1) hx hb dX2_and_140 (by decide) ?_
                              refine lv_iadd hx hb dX2_and_141 ?_
                              refine x_top (nI_add _ _) ?_
                              refine va_put (D := D) (ci := 2) (v := .int (nI (nGates l + 1))) (ty := .int) (C := RX2) (T := TX2) (N := 5) hx hb hts hiX2 tyX2 tyX2_ok nmX2 hown hK hP hD hS 0 rfl rfl 3 (by decide) wf28 (fun _ h9 => h9) rfl (by decide +kernel) rfl rfl (Nat.le_of_ble_eq_true rfl) dX2_and_142 (fun H locs hP hD hS => ?_)
                              have hP : va_P D vwCl [(h, .inr (2, [.ref a1, .ref a2, .int (nI l.length), .int (nI (nGates l + 1)), .int (nI M)])), (a1, .inl (cyI, cap, .inl lf)), (a2, .inl (cyI, cap, .inl of))] H := hP
                              have hD : va_D A [(h, .inr (2, [.ref a1, .ref a2, .int (nI l.length), .int (nI (nGates l + 1)), .int (nI M)])), (a1, .inl (cyI, cap, .inl lf)), (a2, .inl (cyI, cap, .inl of))] := hD
                              refine lv_iconst (v := nI 2) hx hb dX2_and_145 (by decide) ?_
                              refine lv_aload_n hx hb dX2_and_146 rfl (lv_at hl 3 rfl) ?_
                              refine lv_iload_n hx hb dX2_and_147 rfl (lv_at hl 2 rfl) ?_
                              refine lv_iload hx hb dX2_and_148 (lv_at hl 1 rfl) ?_
                              have eG : nAnd M l (some ka) (some kb) = (some (2 * l.length), l ++ [some (ka, kb)]) := by rw [nAnd_g hno hn2 c48 (by omega), nGate_n (nFind_none (fun i hi => hno2 i (by omega))) c130]
                              have eL : (nAnd M l (some ka) (some kb)).2.length = l.length + 1 := by rw [eG]; simp
                              have e2 : l.length + 1 = (l ++ [some (ka, kb)]).length := by simp
                              have e3 : nGates l + 1 = nGates (l ++ [some (ka, kb)]) := (nGates_snoc l ka kb).symm
                              refine x_calli (wc := [(h, .inr (2, [.ref a1, .ref a2, .int (nI l.length), .int (nI (nGates l + 1)), .int (nI M)])), (a1, .inl (cyI, cap, .inl lf)), (a2, .inl (cyI, cap, .inl of))]) (wr := []) (w2 := fun (u : Nat × Nat × Nat × (Nat → Int32) × (Nat → Int32)) => [(h, .inr (2, [.ref u.1, .ref u.2.1, .int (nI (l.length + 1)), .int (nI (nGates l + 1)), .int (nI M)])), (u.1, .inl (cyI, u.2.2.1, .inl u.2.2.2.1)), (u.2.1, .inl (cyI, u.2.2.1, .inl u.2.2.2.2))]) [0, 1, 2] [] [0, 1, 2] (va_runV (As := [.int (nI ka), .int (nI kb)]) (rest := [.int (nI 2)]) ⟨hx, hb, hml, hown, hts⟩ (c_X2_add lch D cyI cyJ _ h a1 a2 cap lf of l.length (nGates l + 1) M (nI ka) (nI kb) (by first | assumption | omega) (by first | assumption | omega) (by first | assumption | omega)) (cwV 2 hts gX2_and_X2_add rfl rfl rfl (by decide +kernel) ⟨Nat.le_of_ble_eq_true rfl, Nat.le_of_ble_eq_true rfl⟩) (x_preV hK hNN (hP.sub (ws' := [(h, .inr (2, [.ref a1, .ref a2, .int (nI l.length), .int (nI (nGates l + 1)), .int (nI M)])), (a1, .inl (cyI, cap, .inl lf)), (a2, .inl (cyI, cap, .inl of))]) [0, 1, 2] rfl) (hD.sub (ws' := [(h, .inr (2, [.ref a1, .ref a2, .int (nI l.length), .int (nI (nGates l + 1)), .int (nI M)])), (a1, .inl (cyI, cap, .inl lf)), (a2, .inl (cyI, cap, .inl of))]) [0, 1, 2] (by decide) rfl) rfl rfl (ci := 2) (q0 := 0) rfl rfl rfl) rfl rfl hl.1 rfl (lv_room (Nat.le_of_ble_eq_true rfl)) dX2_and_150 ⟨by dsimp only; rw [eL, Nat.zero_add]; exact Nat.le_refl _, by dsimp only; rw [eL, Nat.zero_add]; exact Nat.le_refl _⟩) rfl hP hD hS hA rfl rfl (by decide) (by decide) (fun _ => rfl) (by decide) (fun r150 u150 H locs hw150 hP hD hS hz150 => ?_)
                              obtain ⟨b1, b2, cap2, p150, q150⟩ := u150
                              have hP : va_P D vwCl [(h, .inr (2, [.ref b1, .ref b2, .int (nI (l.length + 1)), .int (nI (nGates l + 1)), .int (nI M)])), (b1, .inl (cyI, cap2, .inl p150)), (b2, .inl (cyI, cap2, .inl q150))] H := hP
                              have hD : va_D A [(h, .inr (2, [.ref b1, .ref b2, .int (nI (l.length + 1)), .int (nI (nGates l + 1)), .int (nI M)])), (b1, .inl (cyI, cap2, .inl p150)), (b2, .inl (cyI, cap2, .inl q150))] := hD
                              have hw150 : r150 = nI l.length ∧ cap2 = cp (l.length + 1) cap ∧ (∀ k, k ≤ l.length → p150 k = upd lf l.length (nI ka) k) ∧ (∀ k, k ≤ l.length → q150 k = upd of l.length (nI kb) k) := hw150
                              obtain ⟨rfl, w1, w2, w3⟩ := hw150
                              rw [e2, e3] at hP hD
                              refine lv_imul hx hb dX2_and_153 ?_
                              refine x_top (pk_mul _ _) ?_
                              rw [eG] at hQ
                              exact x_iret hQ hAe hx hb hr hlocks (rfl) hS hK (by rw [Nat.zero_add]; exact Nat.le_of_eq (congrArg (fun n => cst 2 n cap) e2)) (by rw [Nat.zero_add]; exact Nat.le_of_eq (congrArg (fun n => cst (4 * cap) n cap) e2)) dX2_and_154 (b1, b2, cap2, p150, q150) hP hD (⟨rfl, w1.trans (congrArg (fun n => cp n cap) e2), rp_sn2 hrp w2 w3⟩)
                            · have c130 := (nI_eq (by omega) (by omega)).mp c130
                              refine lv_iconst (v := (-1)) hx hb dX2_and_133 (by decide) ?_
                              rw [nAnd_g hno hn2 c48 (by omega), nGate_o (nFind_none (fun i hi => hno2 i (by omega))) c130] at hQ
                              exact x_iret hQ hAe hx hb hr hlocks (rfl) hS hK (Nat.zero_le _) (Nat.zero_le _) dX2_and_134 (a1, a2, cap, lf, of) hP hD (⟨rfl, (if_pos hcl).symm, hrp⟩)
                          · have c85 := mt (nI_leI (by omega) (by omega)).mpr c85
                            refine lv_aload_n hx hb dX2_and_88 rfl (lv_at hl 3 rfl) ?_
                            refine va_get (D := D) (ci := 2) (v := .ref a1) (C := RX2) (T := TX2) (N := 5) hx hb hts hiX2 hown hK hP 0 rfl rfl 0 (by decide) wf9 (fun _ h9 => h9) rfl dX2_and_89 ?_
                            refine lv_iload hx hb dX2_and_92 (lv_at hl 0 rfl) ?_
                            refine x_iald hx hb hK hP 1 0 rfl rfl (by omega) (by omega) dX2_and_94 ?_
                            refine x_top (show lf j = gL (nAt l j) from (hrp j (by omega)).1) ?_
                            refine lv_iload_n hx hb dX2_and_95 rfl (lv_at hl 2 rfl) ?_
                            refine lv_icmp_ne (tgt := 116) hx hb dX2_and_96 (by decide) (fun c96 => ?_) (fun c96 => ?_)
                            · refine lv_iinc (v := nI (j + 1)) (lv' := [(5, .int (nI (j + 1))), (4, .int (nI kb)), (3, .int (nI ka)), (0, .ref h), (1, .int (nI ka)), (2, .int (nI kb))]) hx hb dX2_and_116 hl (k := 0) rfl (n_inc _) (by decide) rfl (fun ls hl => ?_)
                              refine lv_goto (tgt := 79) hx hb dX2_and_119 (by decide) ?_
                              have hno3 : ∀ i, i < j + 1 → ¬ nAt l i = some (ka, kb) := by
                                intro i hi hz
                                by_cases hij : i = j
                                · subst hij
                                  first | exact c96 (by rw [hz]; rfl) | exact c108 (by rw [hz]; rfl)
                                · exact hno2 i (by omega) hz
                              exact ih (j + 1) (by omega) (by omega) hno3 (by omega) _ _ _ hP hD hS (lv_sub hl [0, 1, 2, 3, 4, 5] rfl)
                            · refine lv_aload_n hx hb dX2_and_99 rfl (lv_at hl 3 rfl) ?_
                              refine va_get (D := D) (ci := 2) (v := .ref a2) (C := RX2) (T := TX2) (N := 5) hx hb hts hiX2 hown hK hP 0 rfl rfl 1 (by decide) wf15 (fun _ h9 => h9) rfl dX2_and_100 ?_
                              refine lv_iload hx hb dX2_and_103 (lv_at hl 0 rfl) ?_
                              refine x_iald hx hb hK hP 2 0 rfl rfl (by omega) (by omega) dX2_and_105 ?_
                              refine x_top (show of j = gR (nAt l j) from (hrp j (by omega)).2) ?_
                              refine lv_iload hx hb dX2_and_106 (lv_at hl 1 rfl) ?_
                              refine lv_icmp_ne (tgt := 116) hx hb dX2_and_108 (by decide) (fun c108 => ?_) (fun c108 => ?_)
                              · refine lv_iinc (v := nI (j + 1)) (lv' := [(5, .int (nI (j + 1))), (4, .int (nI kb)), (3, .int (nI ka)), (0, .ref h), (1, .int (nI ka)), (2, .int (nI kb))]) hx hb dX2_and_116 hl (k := 0) rfl (n_inc _) (by decide) rfl (fun ls hl => ?_)
                                refine lv_goto (tgt := 79) hx hb dX2_and_119 (by decide) ?_
                                have hno3 : ∀ i, i < j + 1 → ¬ nAt l i = some (ka, kb) := by
                                  intro i hi hz
                                  by_cases hij : i = j
                                  · subst hij
                                    first | exact c96 (by rw [hz]; rfl) | exact c108 (by rw [hz]; rfl)
                                  · exact hno2 i (by omega) hz
                                exact ih (j + 1) (by omega) (by omega) hno3 (by omega) _ _ _ hP hD hS (lv_sub hl [0, 1, 2, 3, 4, 5] rfl)
                              · refine lv_iconst (v := nI 2) hx hb dX2_and_111 (by decide) ?_
                                refine lv_iload hx hb dX2_and_112 (lv_at hl 0 rfl) ?_
                                refine lv_imul hx hb dX2_and_114 ?_
                                refine x_top (pk_mul _ _) ?_
                                rw [nAnd_g hno hn2 c48 (by omega), nGate_f (nFind_some (g_is hok (by omega) (by omega) (by omega) c96 c108) hno2)] at hQ
                                exact x_iret hQ hAe hx hb hr hlocks (rfl) hS hK (Nat.zero_le _) (Nat.zero_le _) dX2_and_115 (a1, a2, cap, lf, of) hP hD (⟨rfl, (if_pos hcl).symm, hrp⟩)
                      exact lp79 _ 1 (Nat.le_refl _) (by have := hok.1; omega) (fun i hi hz => by rw [show i = 0 by omega, hok.2.1] at hz; cases hz) (Nat.lt_succ_self _) _ _ _ hP hD hS (lv_sub hl [0, 1, 2, 3, 4, 5] rfl)
                  · have c48 := (nI_eq (by omega) (by omega)).mp c48
                    refine lv_iload_n hx hb dX2_and_51 rfl (lv_at hl 2 rfl) ?_
                    rw [nAnd_b hno hn2 c48] at hQ
                    exact x_iret hQ hAe hx hb hr hlocks (rfl) hS hK (Nat.zero_le _) (Nat.zero_le _) dX2_and_52 (a1, a2, cap, lf, of) hP hD (⟨rfl, (if_pos hcl).symm, hrp⟩)
                · have c41 := (nI_eq (by omega) (by omega)).mp c41
                  refine lv_iload_n hx hb dX2_and_44 rfl (lv_at hl 1 rfl) ?_
                  rw [nAnd_a hno (by first | exact Or.inl c36 | exact Or.inr c41)] at hQ
                  exact x_iret hQ hAe hx hb hr hlocks (rfl) hS hK (Nat.zero_le _) (Nat.zero_le _) dX2_and_45 (a1, a2, cap, lf, of) hP hD (⟨rfl, (if_pos hcl).symm, hrp⟩)
            · have c29 := mt (nI_eq (by omega) (by omega)).mpr c29
              refine lv_iconst (v := nI 0) hx hb dX2_and_32 (by decide) ?_
              rw [nAnd_0 (by first | exact Or.inl c11 | exact Or.inr (Or.inl c15) | exact Or.inr (Or.inr ((nNeg_iff _ _).mpr ⟨c24, c29⟩)))] at hQ
              exact x_iret hQ hAe hx hb hr hlocks (rfl) hS hK (Nat.zero_le _) (Nat.zero_le _) dX2_and_33 (a1, a2, cap, lf, of) hP hD (⟨rfl, (if_pos hcl).symm, hrp⟩)
set_option maxHeartbeats 4000000 in
set_option maxRecDepth 100000 in
theorem c_X2_or (lch : Launch) (D : va_G) (cyI cyJ : ClassId) (sz : Nat) (h : Nat) (a1 : Nat) (a2 : Nat) (cap : Nat) (lf : Nat → Int32) (of : Nat → Int32) (M : Nat) (l : NT) (xo : Option Nat) (yo : Option Nat) (hok : nOK l) (hrp : rpN l lf of) (hgM : nGates l ≤ M) (hcl : l.length ≤ cap) (hcap : 16 ≤ cap) (hcap2 : cap < 10000) (hM : M < 10000) (hxo : vO l.length xo) (hyo : vO l.length yo) : Met lch yX2_or wsX2_or ({ frames := 4, cells := cst 2 (nOr M l xo yo).2.length cap, slots := cst (4 * cap) (nOr M l xo yo).2.length cap, locals := 108 } : Room) (va_Pc [.ref h, .int (eO xo), .int (eO yo)] (xA D (xTy cyI cyJ) sz [(h, .inr (2, [.ref a1, .ref a2, .int (nI l.length), .int (nI (nGates l)), .int (nI M)])), (a1, .inl (cyI, cap, .inl lf)), (a2, .inl (cyI, cap, .inl of))])) (va_Qi (fun (r : Int32) (u : Nat × Nat × Nat × (Nat → Int32) × (Nat → Int32)) => r = eO (nOr M l xo yo).1 ∧ u.2.2.1 = cp (nOr M l xo yo).2.length cap ∧ rpN (nOr M l xo yo).2 u.2.2.2.1 u.2.2.2.2) (fun (u : Nat × Nat × Nat × (Nat → Int32) × (Nat → Int32)) t => xB D (xTy cyI cyJ) sz [(h, .inr (2, [.ref a1, .ref a2, .int (nI l.length), .int (nI (nGates l)), .int (nI M)])), (a1, .inl (cyI, cap, .inl lf)), (a2, .inl (cyI, cap, .inl of))] [(h, .inr (2, [.ref u.1, .ref u.2.1, .int (nI (nOr M l xo yo).2.length), .int (nI (nGates (nOr M l xo yo).2)), .int (nI M)])), (u.1, .inl (cyI, u.2.2.1, .inl u.2.2.2.1)), (u.2.1, .inl (cyI, u.2.2.1, .inl u.2.2.2.2))] t) (va_A [(h, .inr (2, [.ref a1, .ref a2, .int (nI l.length), .int (nI (nGates l)), .int (nI M)])), (a1, .inl (cyI, cap, .inl lf)), (a2, .inl (cyI, cap, .inl of))] sz)) (cst 2 (nOr M l xo yo).2.length cap) (cst (4 * cap) (nOr M l xo yo).2.length cap) (va_A [(h, .inr (2, [.ref a1, .ref a2, .int (nI l.length), .int (nI (nGates l)), .int (nI M)])), (a1, .inl (cyI, cap, .inl lf)), (a2, .inl (cyI, cap, .inl of))] sz) := by
  refine x_met RX2 (by decide) rfl rfl (Nat.le_of_ble_eq_true rfl) ?_
  intro p e s m below meth c A Q hAe hQ hx hb hr hlocks hml hnm hts hown hNN hK hsz hP hD hS hA ls hl
  have hP : va_P D vwCl [(h, .inr (2, [.ref a1, .ref a2, .int (nI l.length), .int (nI (nGates l)), .int (nI M)])), (a1, .inl (cyI, cap, .inl lf)), (a2, .inl (cyI, cap, .inl of))] s.heap := hP
  have hD : va_D A [(h, .inr (2, [.ref a1, .ref a2, .int (nI l.length), .int (nI (nGates l)), .int (nI M)])), (a1, .inl (cyI, cap, .inl lf)), (a2, .inl (cyI, cap, .inl of))] := hD
  have hl : lv_has ls 3 [(0, .ref h), (1, .int (eO xo)), (2, .int (eO yo))] := hl
  have K : kept M l (nAnd M l (nNot xo) (nNot yo)) := kept_and hok (vO_not hxo) (vO_not hyo) hgM
  refine lv_aload_n hx hb dX2_or_0 rfl (lv_at hl 0 rfl) ?_
  refine lv_iload_n hx hb dX2_or_1 rfl (lv_at hl 1 rfl) ?_
  refine x_calli (wc := []) (wr := [(h, .inr (2, [.ref a1, .ref a2, .int (nI l.length), .int (nI (nGates l)), .int (nI M)])), (a1, .inl (cyI, cap, .inl lf)), (a2, .inl (cyI, cap, .inl of))]) (w2 := fun (u : Unit) => [(h, .inr (2, [.ref a1, .ref a2, .int (nI l.length), .int (nI (nGates l)), .int (nI M)])), (a1, .inl (cyI, cap, .inl lf)), (a2, .inl (cyI, cap, .inl of))]) [] [0, 1, 2] [0, 1, 2] (va_runS (As := [.int (eO xo)]) (rest := [.ref h]) ⟨hx, hb, hml, hown, hts⟩ (c_X2_not lch D cyI cyJ _ xo (fun k hk => by have := hxo k hk; omega)) (va_cwS 1 hts gX2_or_X2_not rfl rfl rfl (by decide +kernel) ⟨Nat.le_of_ble_eq_true rfl, Nat.le_of_ble_eq_true rfl⟩) (x_pre hK hNN (hP.sub (ws' := []) [] rfl) (hD.sub (ws' := []) [] (by decide) rfl) rfl rfl) rfl rfl hl.1 rfl (lv_room (Nat.le_of_ble_eq_true rfl)) dX2_or_2 ⟨Nat.le_of_ble_eq_true rfl, Nat.le_of_ble_eq_true rfl⟩) rfl hP hD hS hA rfl rfl (by decide) (by decide) (fun _ => rfl) (by decide) (fun r2 u2 H locs hw2 hP hD hS hz2 => ?_)
  have hP : va_P D vwCl [(h, .inr (2, [.ref a1, .ref a2, .int (nI l.length), .int (nI (nGates l)), .int (nI M)])), (a1, .inl (cyI, cap, .inl lf)), (a2, .inl (cyI, cap, .inl of))] H := hP
  have hD : va_D A [(h, .inr (2, [.ref a1, .ref a2, .int (nI l.length), .int (nI (nGates l)), .int (nI M)])), (a1, .inl (cyI, cap, .inl lf)), (a2, .inl (cyI, cap, .inl of))] := hD
  have hw2 : r2 = eO (nNot xo) := hw2
  subst hw2
  refine W.widen (k := 0) (n := 0) (Nat.le_refl _) (Nat.le_refl _) ?_
  refine lv_iload_n hx hb dX2_or_5 rfl (lv_at hl 2 rfl) ?_
  refine x_calli (wc := []) (wr := [(h, .inr (2, [.ref a1, .ref a2, .int (nI l.length), .int (nI (nGates l)), .int (nI M)])), (a1, .inl (cyI, cap, .inl lf)), (a2, .inl (cyI, cap, .inl of))]) (w2 := fun (u : Unit) => [(h, .inr (2, [.ref a1, .ref a2, .int (nI l.length), .int (nI (nGates l)), .int (nI M)])), (a1, .inl (cyI, cap, .inl lf)), (a2, .inl (cyI, cap, .inl of))]) [] [0, 1, 2] [0, 1, 2] (va_runS (As := [.int (eO yo)]) (rest := [.int (eO (nNot xo)), .ref h]) ⟨hx, hb, hml, hown, hts⟩ (c_X2_not lch D cyI cyJ _ yo (fun k hk => by have := hyo k hk; omega)) (va_cwS 1 hts gX2_or_X2_not rfl rfl rfl (by decide +kernel) ⟨Nat.le_of_ble_eq_true rfl, Nat.le_of_ble_eq_true rfl⟩) (x_pre hK hNN (hP.sub (ws' := []) [] rfl) (hD.sub (ws' := []) [] (by decide) rfl) rfl rfl) rfl rfl hl.1 rfl (lv_room (Nat.le_of_ble_eq_true rfl)) dX2_or_6 ⟨Nat.le_of_ble_eq_true rfl, Nat.le_of_ble_eq_true rfl⟩) rfl hP hD hS hA rfl rfl (by decide) (by decide) (fun _ => rfl) (by decide) (fun r6 u6 H locs hw6 hP hD hS hz6 => ?_)
  have hP : va_P D vwCl [(h, .inr (2, [.ref a1, .ref a2, .int (nI l.length), .int (nI (nGates l)), .int (nI M)])), (a1, .inl (cyI, cap, .inl lf)), (a2, .inl (cyI, cap, .inl of))] H := hP
  have hD : va_D A [(h, .inr (2, [.ref a1, .ref a2, .int (nI l.length), .int (nI (nGates l)), .int (nI M)])), (a1, .inl (cyI, cap, .inl lf)), (a2, .inl (cyI, cap, .inl of))] := hD
  have hw6 : r6 = eO (nNot yo) := hw6
  subst hw6
  refine W.widen (k := 0) (n := 0) (Nat.le_refl _) (Nat.le_refl _) ?_
  refine x_calli (wc := [(h, .inr (2, [.ref a1, .ref a2, .int (nI l.length), .int (nI (nGates l)), .int (nI M)])), (a1, .inl (cyI, cap, .inl lf)), (a2, .inl (cyI, cap, .inl of))]) (wr := []) (w2 := fun (u : Nat × Nat × Nat × (Nat → Int32) × (Nat → Int32)) => [(h, .inr (2, [.ref u.1, .ref u.2.1, .int (nI (nAnd M l (nNot xo) (nNot yo)).2.length), .int (nI (nGates (nAnd M l (nNot xo) (nNot yo)).2)), .int (nI M)])), (u.1, .inl (cyI, u.2.2.1, .inl u.2.2.2.1)), (u.2.1, .inl (cyI, u.2.2.1, .inl u.2.2.2.2))]) [0, 1, 2] [] [0, 1, 2] (va_runV (As := [.int (eO (nNot xo)), .int (eO (nNot yo))]) (rest := []) ⟨hx, hb, hml, hown, hts⟩ (c_X2_and lch D cyI cyJ _ h a1 a2 cap lf of M l (nNot xo) (nNot yo) (by first | assumption | omega) (by first | assumption | omega) (by first | assumption | omega) (by first | assumption | omega) (by first | assumption | omega) (by first | assumption | omega) (by first | assumption | omega) (vO_not hxo) (vO_not hyo)) (cwV 2 hts gX2_or_X2_and rfl rfl rfl (by decide +kernel) ⟨Nat.le_of_ble_eq_true rfl, Nat.le_of_ble_eq_true rfl⟩) (x_preV hK hNN (hP.sub (ws' := [(h, .inr (2, [.ref a1, .ref a2, .int (nI l.length), .int (nI (nGates l)), .int (nI M)])), (a1, .inl (cyI, cap, .inl lf)), (a2, .inl (cyI, cap, .inl of))]) [0, 1, 2] rfl) (hD.sub (ws' := [(h, .inr (2, [.ref a1, .ref a2, .int (nI l.length), .int (nI (nGates l)), .int (nI M)])), (a1, .inl (cyI, cap, .inl lf)), (a2, .inl (cyI, cap, .inl of))]) [0, 1, 2] (by decide) rfl) rfl rfl (ci := 2) (q0 := 0) rfl rfl rfl) rfl rfl hl.1 rfl (lv_room (Nat.le_of_ble_eq_true rfl)) dX2_or_9 ⟨by dsimp only; rw [Nat.zero_add]; exact Nat.le_refl (cst 2 (nAnd M l (nNot xo) (nNot yo)).2.length cap), by dsimp only; rw [Nat.zero_add]; exact Nat.le_refl (cst (4 * cap) (nAnd M l (nNot xo) (nNot yo)).2.length cap)⟩) rfl hP hD hS hA rfl rfl (by decide) (by decide) (fun _ => rfl) (by decide) (fun r9 u9 H locs hw9 hP hD hS hz9 => ?_)
  obtain ⟨b1, b2, cap2, p9, q9⟩ := u9
  have hP : va_P D vwCl [(h, .inr (2, [.ref b1, .ref b2, .int (nI (nAnd M l (nNot xo) (nNot yo)).2.length), .int (nI (nGates (nAnd M l (nNot xo) (nNot yo)).2)), .int (nI M)])), (b1, .inl (cyI, cap2, .inl p9)), (b2, .inl (cyI, cap2, .inl q9))] H := hP
  have hD : va_D A [(h, .inr (2, [.ref b1, .ref b2, .int (nI (nAnd M l (nNot xo) (nNot yo)).2.length), .int (nI (nGates (nAnd M l (nNot xo) (nNot yo)).2)), .int (nI M)])), (b1, .inl (cyI, cap2, .inl p9)), (b2, .inl (cyI, cap2, .inl q9))] := hD
  have hw9 : r9 = eO (nAnd M l (nNot xo) (nNot yo)).1 ∧ cap2 = cp (nAnd M l (nNot xo) (nNot yo)).2.length cap ∧ rpN (nAnd M l (nNot xo) (nNot yo)).2 p9 q9 := hw9
  obtain ⟨rfl, w1, w2⟩ := hw9
  refine x_calli (wc := []) (wr := [(h, .inr (2, [.ref b1, .ref b2, .int (nI (nAnd M l (nNot xo) (nNot yo)).2.length), .int (nI (nGates (nAnd M l (nNot xo) (nNot yo)).2)), .int (nI M)])), (b1, .inl (cyI, cap2, .inl p9)), (b2, .inl (cyI, cap2, .inl q9))]) (w2 := fun (u : Unit) => [(h, .inr (2, [.ref b1, .ref b2, .int (nI (nAnd M l (nNot xo) (nNot yo)).2.length), .int (nI (nGates (nAnd M l (nNot xo) (nNot yo)).2)), .int (nI M)])), (b1, .inl (cyI, cap2, .inl p9)), (b2, .inl (cyI, cap2, .inl q9))]) [] [0, 1, 2] [0, 1, 2] (va_runS (As := [.int (eO (nAnd M l (nNot xo) (nNot yo)).1)]) (rest := []) ⟨hx, hb, hml, hown, hts⟩ (c_X2_not lch D cyI cyJ _ (nAnd M l (nNot xo) (nNot yo)).1 (fun k hk => by have z1 := K.2.1 k hk; have z2 := K.2.2.2.1; have z3 := K.2.2.1; omega)) (va_cwS 1 hts gX2_or_X2_not rfl rfl rfl (by decide +kernel) ⟨Nat.le_of_ble_eq_true rfl, Nat.le_of_ble_eq_true rfl⟩) (x_pre hK hNN (hP.sub (ws' := []) [] rfl) (hD.sub (ws' := []) [] (by decide) rfl) rfl rfl) rfl rfl hl.1 rfl (lv_room (Nat.le_of_ble_eq_true rfl)) dX2_or_12 ⟨by dsimp only; rw [Nat.zero_add, Nat.add_zero]; exact Nat.le_refl (cst 2 (nAnd M l (nNot xo) (nNot yo)).2.length cap), by dsimp only; rw [Nat.zero_add, Nat.add_zero]; exact Nat.le_refl (cst (4 * cap) (nAnd M l (nNot xo) (nNot yo)).2.length cap)⟩) rfl hP hD hS hA rfl rfl (by decide) (by decide) (fun _ => rfl) (by decide) (fun r12 u12 H locs hw12 hP hD hS hz12 => ?_)
  have hP : va_P D vwCl [(h, .inr (2, [.ref b1, .ref b2, .int (nI (nAnd M l (nNot xo) (nNot yo)).2.length), .int (nI (nGates (nAnd M l (nNot xo) (nNot yo)).2)), .int (nI M)])), (b1, .inl (cyI, cap2, .inl p9)), (b2, .inl (cyI, cap2, .inl q9))] H := hP
  have hD : va_D A [(h, .inr (2, [.ref b1, .ref b2, .int (nI (nAnd M l (nNot xo) (nNot yo)).2.length), .int (nI (nGates (nAnd M l (nNot xo) (nNot yo)).2)), .int (nI M)])), (b1, .inl (cyI, cap2, .inl p9)), (b2, .inl (cyI, cap2, .inl q9))] := hD
  have hw12 : r12 = eO (nNot (nAnd M l (nNot xo) (nNot yo)).1) := hw12
  subst hw12
  refine W.widen (k := 0 + (cst 2 (nAnd M l (nNot xo) (nNot yo)).2.length cap)) (n := 0 + (cst (4 * cap) (nAnd M l (nNot xo) (nNot yo)).2.length cap)) (Nat.le_refl _) (Nat.le_refl _) ?_
  exact x_iret hQ hAe hx hb hr hlocks (rfl) hS hK (by rw [Nat.zero_add]; exact Nat.le_refl (cst 2 (nAnd M l (nNot xo) (nNot yo)).2.length cap)) (by rw [Nat.zero_add]; exact Nat.le_refl (cst (4 * cap) (nAnd M l (nNot xo) (nNot yo)).2.length cap)) dX2_or_15 (b1, b2, cap2, p9, q9) hP hD (⟨rfl, w1, w2⟩)
