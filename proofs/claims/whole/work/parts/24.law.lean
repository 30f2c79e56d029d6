/-! the law's loop: what it holds, its script's numbers; the parts of its body (wip/whole/spec_law.py) -/
def LI (D : va_G) (cyI cyJ : ClassId) (A : Nat → Prop) (x y : Nat) (H : Heap) : Prop := ∃ (l : NT) (inp : Nat → Nat) (ic : Nat) (st : Bool) (bb : Nat → Int32) (tt : Nat → Int32) (hn : Nat) (n1 : Nat) (n2 : Nat) (n3 : Nat) (n4 : Nat) (ht : Nat) (t1 : Nat) (t2 : Nat) (t3 : Nat) (t4 : Nat) (av : Nat) (au : Nat) (ab : Nat) (ai : Nat) (aw : Nat) (lf : Nat → Int32) (of : Nat → Int32) (nf : Nat → Int32) (wf : Nat → Int64) (tlf : Nat → Int32) (tof : Nat → Int32) (tnf : Nat → Int32) (twf : Nat → Int64) (tnc : Nat) (tic : Nat) (tw : Int32) (vl : Nat → Int32) (tl : Nat → Int32) (ww : Nat → Int64) (hnm : Nat) (n1m : Nat) (n2m : Nat) (htm : Nat) (t1m : Nat) (t2m : Nat) (iv : Nat) (bv : Nat) (tv : Nat) (vv : Nat) (uv : Nat) (ov : Nat) (kv : Nat) (cap : Nat) (lfm : Nat → Int32) (ofm : Nat → Int32) (tcap : Nat) (tlfm : Nat → Int32) (tofm : Nat → Int32) (tncm : Nat) (tgt : Nat) (nfm : Nat → Int32) (vc : Nat) (vlm : Nat → Int32) (tlm : Nat → Int32) (oc : Nat) (nw : Nat → Int32) (mk : Nat → Int32), va_P D vwCl [(x, .inr (1, [.ref hn, .ref ht, .int tw, .ref av, .ref au, .ref ab, .ref ai, .ref aw])), (hn, .inr (0, [.int (nI 64), .int (nI 400), .ref n1, .ref n2, .ref n3, .ref n4, .int (nI l.length), .int (nI ic)])), (n1, .inl (cyI, (1 + 64 + 400), .inl lf)), (n2, .inl (cyI, (1 + 64 + 400), .inl of)), (n3, .inl (cyI, 64, .inl nf)), (n4, .inl (cyJ, (1 + 64 + 400), .inr (.inl wf))), (ht, .inr (0, [.int (nI 128), .int (nI 1500), .ref t1, .ref t2, .ref t3, .ref t4, .int (nI tnc), .int (nI tic)])), (t1, .inl (cyI, (1 + 128 + 1500), .inl tlf)), (t2, .inl (cyI, (1 + 128 + 1500), .inl tof)), (t3, .inl (cyI, 128, .inl tnf)), (t4, .inl (cyJ, (1 + 128 + 1500), .inr (.inl twf))), (av, .inl (cyI, 465, .inl vl)), (au, .inl (cyI, 465, .inl tl)), (ab, .inl (cyI, 64, .inl bb)), (ai, .inl (cyI, 64, .inl tt)), (aw, .inl (cyJ, 465, .inr (.inl ww))), (y, .inr (3, [.ref hnm, .ref htm, .int (bI (st = true)), .ref iv, .int (nI ic), .ref bv, .ref tv, .ref vv, .ref uv, .ref ov, .ref kv])), (hnm, .inr (2, [.ref n1m, .ref n2m, .int (nI l.length), .int (nI (nGates l)), .int (nI 400)])), (n1m, .inl (cyI, cap, .inl lfm)), (n2m, .inl (cyI, cap, .inl ofm)), (htm, .inr (2, [.ref t1m, .ref t2m, .int (nI tncm), .int (nI tgt), .int (nI 1500)])), (t1m, .inl (cyI, tcap, .inl tlfm)), (t2m, .inl (cyI, tcap, .inl tofm)), (iv, .inl (cyI, 64, .inl nfm)), (bv, .inl (cyI, 64, .inl bb)), (tv, .inl (cyI, 64, .inl tt)), (vv, .inl (cyI, vc, .inl vlm)), (uv, .inl (cyI, vc, .inl tlm)), (ov, .inl (cyI, oc, .inl nw)), (kv, .inl (cyI, oc, .inl mk))] H ∧ va_D A [(x, .inr (1, [.ref hn, .ref ht, .int tw, .ref av, .ref au, .ref ab, .ref ai, .ref aw])), (hn, .inr (0, [.int (nI 64), .int (nI 400), .ref n1, .ref n2, .ref n3, .ref n4, .int (nI l.length), .int (nI ic)])), (n1, .inl (cyI, (1 + 64 + 400), .inl lf)), (n2, .inl (cyI, (1 + 64 + 400), .inl of)), (n3, .inl (cyI, 64, .inl nf)), (n4, .inl (cyJ, (1 + 64 + 400), .inr (.inl wf))), (ht, .inr (0, [.int (nI 128), .int (nI 1500), .ref t1, .ref t2, .ref t3, .ref t4, .int (nI tnc), .int (nI tic)])), (t1, .inl (cyI, (1 + 128 + 1500), .inl tlf)), (t2, .inl (cyI, (1 + 128 + 1500), .inl tof)), (t3, .inl (cyI, 128, .inl tnf)), (t4, .inl (cyJ, (1 + 128 + 1500), .inr (.inl twf))), (av, .inl (cyI, 465, .inl vl)), (au, .inl (cyI, 465, .inl tl)), (ab, .inl (cyI, 64, .inl bb)), (ai, .inl (cyI, 64, .inl tt)), (aw, .inl (cyJ, 465, .inr (.inl ww))), (y, .inr (3, [.ref hnm, .ref htm, .int (bI (st = true)), .ref iv, .int (nI ic), .ref bv, .ref tv, .ref vv, .ref uv, .ref ov, .ref kv])), (hnm, .inr (2, [.ref n1m, .ref n2m, .int (nI l.length), .int (nI (nGates l)), .int (nI 400)])), (n1m, .inl (cyI, cap, .inl lfm)), (n2m, .inl (cyI, cap, .inl ofm)), (htm, .inr (2, [.ref t1m, .ref t2m, .int (nI tncm), .int (nI tgt), .int (nI 1500)])), (t1m, .inl (cyI, tcap, .inl tlfm)), (t2m, .inl (cyI, tcap, .inl tofm)), (iv, .inl (cyI, 64, .inl nfm)), (bv, .inl (cyI, 64, .inl bb)), (tv, .inl (cyI, 64, .inl tt)), (vv, .inl (cyI, vc, .inl vlm)), (uv, .inl (cyI, vc, .inl tlm)), (ov, .inl (cyI, oc, .inl nw)), (kv, .inl (cyI, oc, .inl mk))] ∧ XI l inp ic st lf of nf wf tlf tof tnf twf tnc tic tw vl tl ww ∧ MI l inp ic st cap lfm ofm tcap tlfm tofm tncm tgt nfm vc vlm tlm oc ∧ (∀ i, bb i = 0 ∨ bb i = 1) ∧ ∀ i, tt i = 0 ∨ tt i = 1
section LROWS
variable {p : Program} {l : Launch} {e : Env} {R : Room} {s : State} {m : MethodId} {args : Array Value} {below : List Frame} {meth : Method} {c : Code} {H : Heap} {locs : List Loc} {cells slots : Nat} {Q : State → Prop}
variable {cc : ByteArray} {pc : Nat} {ls : Array Slot} {rest : List Value} {A : Nat → Prop} {x y i b L : Nat} {xs : Nat → Int32}
/-- a number of the script is pushed -/
theorem l_sc (hx : p.tables.exec = Jvm.exec) (hb : c.code = cc) (hX : va_X b L xs s s.heap) (hbl : b < s.heap.size) (hbA : ¬ A b) (hS : va_S A s.heap H locs) (hl : lv_has ls 4 [(3, .int (nI i)), (2, .ref y), (1, .ref x), (0, .ref b)]) {k : Nat} {n : Int} (d0 : decode cc pc = .ok (.aload_n 0, 1)) (d1 : decode cc (pc + 1) = .ok (.iload_n 3, 1)) (d2 : decode cc (pc + 2) = .ok (.iconst n, 1)) (hn : Int32.ofInt n = nI k) (d3 : decode cc (pc + 3) = .ok (.iadd, 1)) (d4 : decode cc (pc + 4) = .ok (.iaload, 1)) (hk : i + k < L) (h31 : L < 2 ^ 31)
    (kk : W p l e R s m args below meth c H locs cells slots Q (F0 m (pc + 5) ls (.int (xs (i + k)) :: rest))) : W p l e R s m args below meth c H locs cells slots Q (F0 m pc ls rest) := by
  refine lv_aload_n hx hb d0 rfl (lv_at hl 3 rfl) ?_
  refine lv_iload_n hx hb d1 rfl (lv_at hl 0 rfl) ?_
  refine lv_iconst (v := nI k) hx hb d2 hn ?_
  refine lv_iadd hx hb d3 ?_
  refine x_top (nI_add _ _) ?_
  refine va_sld hx hb hX hbl hbA hS (vp_in_nI hk h31) d4 ?_
  rw [nI_clamp (Nat.lt_trans hk h31)]
  exact kk
/-- whether a number is not 0 -/
theorem l_ne (hx : p.tables.exec = Jvm.exec) (hb : c.code = cc) {v : Int32} (d0 : decode cc pc = .ok (.ifCond .eq 7, 3)) (d1 : decode cc (pc + 3) = .ok (.iconst 1, 1)) (d2 : decode cc (pc + 4) = .ok (.goto 4, 3)) (d3 : decode cc (pc + 7) = .ok (.iconst 0, 1))
    (kk : W p l e R s m args below meth c H locs cells slots Q (F0 m (pc + 8) ls (.int (bI (¬ v = 0)) :: rest))) : W p l e R s m args below meth c H locs cells slots Q (F0 m pc ls (.int v :: rest)) := by
  refine lv_if_eq (tgt := pc + 7) hx hb d0 (by omega) (fun h => ?_) (fun h => ?_)
  · refine lv_iconst (v := 0) hx hb d3 (by decide) ?_
    rw [show (0 : Int32) = bI (¬ v = 0) from bI_f (fun z => z h)]
    exact kk
  · refine lv_iconst (v := 1) hx hb d1 (by decide) ?_
    refine lv_goto (tgt := pc + 8) hx hb d2 (by omega) ?_
    rw [show (1 : Int32) = bI (¬ v = 0) from bI_t h]
    exact kk
end LROWS
theorem l_and15 (v : Int32) : ∃ j : Nat, j < 16 ∧ v &&& nI 15 = nI j := by
  refine ⟨(v.toBitVec &&& 15#32).toNat, ?_, ?_⟩
  · rw [BitVec.toNat_and]
    exact Nat.lt_of_le_of_lt Nat.and_le_right (by decide)
  · apply Int32.toBitVec_inj.mp
    rw [Int32.toBitVec_and]
    show v.toBitVec &&& 15#32 = BitVec.ofNat 32 (v.toBitVec &&& 15#32).toNat
    rw [BitVec.ofNat_toNat, BitVec.setWidth_eq]
theorem l_go {L i : Nat} (hL : L ≤ 2048) (hi : i ≤ 4096) (h : ¬ nI L - nI 4 < nI i) : i + 4 ≤ L := by
  refine Nat.le_of_not_lt (fun z => h ?_)
  rw [Int32.lt_iff_toInt_lt, pk_sub_toInt (by omega) (by omega), nI_toInt (by omega)]
  omega
theorem sRow_01 {ic : Nat} {f : Nat → Int32} {i bit : Int32} (h : ∀ k, f k = 0 ∨ f k = 1) : ∀ k, sRow ic f i bit k = 0 ∨ sRow ic f i bit k = 1 := by
  intro k
  unfold sRow
  split
  · by_cases e : k = i.toNatClampNeg
    · rw [e, pk_us]
      split
      · exact Or.inl rfl
      · exact Or.inr rfl
    · rw [pk_un e]; exact h k
  · exact h k
theorem sSetB_01 {ic : Nat} {b : Nat → Int32} {i q bit : Int32} (h : ∀ k, b k = 0 ∨ b k = 1) : ∀ k, sSetB ic b i q bit k = 0 ∨ sSetB ic b i q bit k = 1 := by
  unfold sSetB
  split
  · exact sRow_01 h
  · exact h
theorem sSetT_01 {ic : Nat} {t : Nat → Int32} {i q bit : Int32} (h : ∀ k, t k = 0 ∨ t k = 1) : ∀ k, sSetT ic t i q bit k = 0 ∨ sSetT ic t i q bit k = 1 := by
  unfold sSetT
  split
  · exact h
  · exact sRow_01 h
