/-! rows of this claim over the kit's: contracts in one shape, numbers as nI of a natural number -/
abbrev xTy (cyI cyJ : ClassId) : List (ClassId × FieldType) := [(cyI, .int), (cyJ, .long)]
/-- the words of nest mates -/
def nw_all : List Cond := [.methodLinkNest "NetTwin" 11 yX0_init "NetTwin", .methodLinkNest "NetTwin" 42 yX0_addInput "NetTwin", .methodLinkNest "NetTwin" 46 yX0_both "NetTwin", .methodLinkNest "NetTwin$Net" 46 yX1_not "NetTwin", .methodLinkNest "NetTwin" 50 yX0_either "NetTwin", .methodLinkNest "NetTwin" 57 yX0_holds "NetTwin", .methodLinkNest "NetTwin" 114 yX0_clear "NetTwin", .methodLinkNest "NetTwin" 120 yX0_isGate "NetTwin", .methodLinkNest "NetTwin" 111 yX0_spread "NetTwin", .methodLinkNest "NetTwin" 90 yX0_wordOf "NetTwin", .methodLinkNest "NetTwinModel" 94 yX2_more "NetTwinModel", .fieldLinkNest "NetTwin" 72 "NetTwin$Net" "lesser" "[I" "NetTwin", .fieldLinkNest "NetTwin" 75 "NetTwin$Net" "other" "[I" "NetTwin", .fieldLinkNest "NetTwin" 126 "NetTwin$Net" "inputNode" "[I" "NetTwin", .fieldLinkNest "NetTwin" 129 "NetTwin$Net" "word" "[J" "NetTwin", .fieldLinkNest "NetTwin" 61 "NetTwin$Net" "nodeCount" "I" "NetTwin", .fieldLinkNest "NetTwin" 84 "NetTwin$Net" "inputCount" "I" "NetTwin"]
def nw_is : Cond → Bool
  | .methodLinkNest .. => true
  | .fieldLinkNest .. => true
  | _ => false
def NN (U : State) : Prop := ∀ w ∈ nw_all, va_Nw w U
theorem nw_ok : ∀ w ∈ nw_all, nw_is w = true := by decide +kernel
theorem nw_tab {w : Cond} (h : nw_is w = true) : w.onTables = true := by
  cases w <;> first | rfl | (simp [nw_is] at h)
theorem nw_warm {w : Cond} (h : nw_is w = true) {s U : State} (hW : s.WarmedH U.vm) (hZ : va_Nw w s) : va_Nw w U := by
  cases w <;> first | (simp [nw_is] at h; done) | exact va_Nw.warmF hW hZ | exact va_Nw.warmM hW hZ
theorem NN.warm {s U : State} (hW : s.WarmedH U.vm) (h : NN s) : NN U := fun w hw => nw_warm (nw_ok w hw) hW (h w hw)
theorem NN.same {s U : State} (e : s.vm = U.vm) (h : NN s) : NN U := fun w hw => va_Nw.same (nw_tab (nw_ok w hw)) e (h w hw)
theorem NN.get {s : State} {args : Array Value} (h : NN s) (w : Cond) (hw : w ∈ nw_all) : w.before args s = true := va_Nw.use (nw_tab (nw_ok w hw)) (h w hw)
theorem NN.at {s : State} (h : NN s) (w : Cond) (hw : w ∈ nw_all) : va_Nw w s := h w hw
/-- a contract's start: the world ws; its end: the world w1 -/
def xA (D : va_G) (tys : List (ClassId × FieldType)) (sz : Nat) (ws : va_W) (U : State) : Prop := U.heap.size = sz ∧ va_P D vwCl ws U.heap ∧ va_K D vwCl tys U ∧ va_D (fun _ => True) ws ∧ NN U
def xB (D : va_G) (tys : List (ClassId × FieldType)) (sz : Nat) (ws w1 : va_W) (t : State) : Prop := va_P D vwCl w1 t.heap ∧ va_K D vwCl tys t ∧ va_D (va_A ws sz) w1
theorem xA.blind (D : va_G) (tys : List (ClassId × FieldType)) (sz : Nat) (ws : va_W) (av : List Value) : FrameBlind (va_Pc av (xA D tys sz ws)) := fun a U g mk q => by
  obtain ⟨q0, q1, qP, qK, qD, qN⟩ := q
  exact ⟨q0, q1, qP, va_K.moved (u := U) (U := U.calling g mk a) (Vm.Alike.refl U.vm) qK, qD, NN.same (s := U) (U := U.calling g mk a) rfl qN⟩
theorem x_sub {α : Type} {ws ws' : List α} {is : List Nat} (h : is.map (fun i => ws[i]?) = ws'.map some) : is.filterMap (fun i => ws[i]?) = ws' := by
  have e : is.filterMap (fun i => ws[i]?) = (is.map (fun i => ws[i]?)).filterMap id := by
    rw [List.filterMap_map]; rfl
  rw [e, h, List.filterMap_map]
  simp
section XROWS
variable {p : Program} {l : Launch} {e : Env} {R : Room} {s : State} {m : MethodId} {args : Array Value} {below : List Frame} {meth : Method} {c : Code} {H : Heap} {locs : List Loc} {cells slots : Nat} {Q : State → Prop}
variable {cc : ByteArray} {pc : Nat} {ls : Array Slot} {rest st0 : List Value} {D : va_G} {tys : List (ClassId × FieldType)} {A0 : Nat → Prop} {H0 : Heap} {mc ms : Nat} {a : Array Value} {ws wc wr : va_W}
theorem x_pre {av As : List Value} {sA : Nat} (hK : va_K D vwCl tys s) (hN : NN s) (hP : va_P D vwCl wc H) (hD : va_D A0 wc) (hav : av = As) (hs : H.size = sA) : PreS s H (va_Pc av (xA D tys sA wc)) As :=
  ⟨xA.blind D tys sA wc av, fun U hU hW => ⟨by rw [hav], by rw [hU]; exact hs, by rw [hU]; exact hP, va_K.moved hW.alike hK, hD.weaken (fun _ _ _ _ => trivial), hN.warm hW⟩⟩
theorem x_preV {av As : List Value} {sA b ci q0 : Nat} {C : String} {q : vw_C} {fs : List Value} (hK : va_K D vwCl tys s) (hN : NN s) (hP : va_P D vwCl wc H) (hD : va_D A0 wc) (hav : av = .ref b :: As) (hs : H.size = sA) (hc : vwCl[ci]? = some q) (he : wc[q0]? = some (b, .inr (ci, fs))) (hC : q.1 = C) : PreV s H C b (va_Pc av (xA D tys sA wc)) As :=
  ⟨xA.blind D tys sA wc av, by rw [← hC]; exact va_recv hK hP hc he, fun U hU hW => ⟨by rw [hav], by rw [hU]; exact hs, by rw [hU]; exact hP, va_K.moved hW.alike hK, hD.weaken (fun _ _ _ _ => trivial), hN.warm hW⟩⟩
theorem x_back {S : Type} {w1 w2 : S → va_W} (u : S) {H1 : Heap} {t : State} (isC isR isB : List Nat) (hP : va_P D vwCl ws H) (hD : va_D A0 ws) (hS : va_S A0 H0 H locs) (hA : ∀ q, H0.size ≤ q → A0 q) (hC : isC.map (fun i => ws[i]?) = wc.map some) (hR : isR.map (fun i => ws[i]?) = wr.map some) (hn : va_nd isR = true) (hdis : ∀ i ∈ isR, i ∉ isC) (hB2 : isB.map (fun i => (wr ++ w1 u)[i]?) = (w2 u).map some) (hn2 : va_nd isB = true)
    (ht : t.heap = H1) (hk : ∀ q : Nat, q < H.size → ¬ va_A wc H.size q → H1[q]? = H[q]?) (hB : xB D tys H.size wc (w1 u) t) : va_P D vwCl (w2 u) H1 ∧ va_D A0 (w2 u) := by
  obtain ⟨hP1, hK1, hD1⟩ := hB
  rw [ht] at hP1
  obtain ⟨h2, h3⟩ := va_join hP hD isC isR hC hR hn hdis hk (va_free hD hS hA isC hC) hP1 hD1
  exact ⟨h2.sub isB (x_sub hB2), h3.sub isB hn2 hB2⟩
theorem x_calli {S : Type} {post : Int32 → S → Prop} {w1 w2 : S → va_W} {sA : Nat} (isC isR isB : List Nat) (hr : va_Run p l e R s m args below meth c H locs cells slots mc ms (F0 m pc ls st0) rest (va_Qi post (fun u t => xB D tys sA wc (w1 u) t) (va_A wc sA) a) (va_A wc sA)) (hs : H.size = sA)
    (hP : va_P D vwCl ws H) (hD : va_D A0 ws) (hS : va_S A0 H0 H locs) (hA : ∀ q, H0.size ≤ q → A0 q) (hC : isC.map (fun i => ws[i]?) = wc.map some) (hR : isR.map (fun i => ws[i]?) = wr.map some) (hn : va_nd isR = true) (hdis : ∀ i ∈ isR, i ∉ isC) (hB2 : ∀ u : S, isB.map (fun i => (wr ++ w1 u)[i]?) = (w2 u).map some) (hn2 : va_nd isB = true)
    (kk : ∀ (r : Int32) (u : S) (H1 : Heap) (locs1 : List Loc), post r u → va_P D vwCl (w2 u) H1 → va_D A0 (w2 u) → va_S A0 H0 H1 locs1 → H.size ≤ H1.size → W p l e R s m args below meth c H1 locs1 (cells + mc) (slots + ms) Q (F0 m (pc + 3) ls (.int r :: rest))) : W p l e R s m args below meth c H locs cells slots Q (F0 m pc ls st0) := by
  subst hs
  refine va_calli hr hS (fun q _ h => va_free hD hS hA isC hC q h) (fun q h => va_free hD hS hA isC hC q h) (fun r u t H1 locs1 ht _ hw hB hz hk hS1 => ?_)
  obtain ⟨h2, h3⟩ := x_back (w1 := w1) (w2 := w2) u isC isR isB hP hD hS hA hC hR hn hdis (hB2 u) hn2 ht hk hB
  exact kk r u H1 locs1 hw h2 h3 hS1 hz
theorem x_calll {S : Type} {post : Int64 → S → Prop} {w1 w2 : S → va_W} {sA : Nat} (isC isR isB : List Nat) (hr : va_Run p l e R s m args below meth c H locs cells slots mc ms (F0 m pc ls st0) rest (va_Ql post (fun u t => xB D tys sA wc (w1 u) t) (va_A wc sA) a) (va_A wc sA)) (hs : H.size = sA)
    (hP : va_P D vwCl ws H) (hD : va_D A0 ws) (hS : va_S A0 H0 H locs) (hA : ∀ q, H0.size ≤ q → A0 q) (hC : isC.map (fun i => ws[i]?) = wc.map some) (hR : isR.map (fun i => ws[i]?) = wr.map some) (hn : va_nd isR = true) (hdis : ∀ i ∈ isR, i ∉ isC) (hB2 : ∀ u : S, isB.map (fun i => (wr ++ w1 u)[i]?) = (w2 u).map some) (hn2 : va_nd isB = true)
    (kk : ∀ (r : Int64) (u : S) (H1 : Heap) (locs1 : List Loc), post r u → va_P D vwCl (w2 u) H1 → va_D A0 (w2 u) → va_S A0 H0 H1 locs1 → H.size ≤ H1.size → W p l e R s m args below meth c H1 locs1 (cells + mc) (slots + ms) Q (F0 m (pc + 3) ls (.long r :: rest))) : W p l e R s m args below meth c H locs cells slots Q (F0 m pc ls st0) := by
  subst hs
  refine va_calll hr hS (fun q _ h => va_free hD hS hA isC hC q h) (fun q h => va_free hD hS hA isC hC q h) (fun r u t H1 locs1 ht _ hw hB hz hk hS1 => ?_)
  obtain ⟨h2, h3⟩ := x_back (w1 := w1) (w2 := w2) u isC isR isB hP hD hS hA hC hR hn hdis (hB2 u) hn2 ht hk hB
  exact kk r u H1 locs1 hw h2 h3 hS1 hz
theorem x_callv {S : Type} {post : S → Prop} {w1 w2 : S → va_W} {sA : Nat} (isC isR isB : List Nat) (hr : va_Run p l e R s m args below meth c H locs cells slots mc ms (F0 m pc ls st0) rest (va_Qv post (fun u t => xB D tys sA wc (w1 u) t) (va_A wc sA) a) (va_A wc sA)) (hs : H.size = sA)
    (hP : va_P D vwCl ws H) (hD : va_D A0 ws) (hS : va_S A0 H0 H locs) (hA : ∀ q, H0.size ≤ q → A0 q) (hC : isC.map (fun i => ws[i]?) = wc.map some) (hR : isR.map (fun i => ws[i]?) = wr.map some) (hn : va_nd isR = true) (hdis : ∀ i ∈ isR, i ∉ isC) (hB2 : ∀ u : S, isB.map (fun i => (wr ++ w1 u)[i]?) = (w2 u).map some) (hn2 : va_nd isB = true)
    (kk : ∀ (u : S) (H1 : Heap) (locs1 : List Loc), post u → va_P D vwCl (w2 u) H1 → va_D A0 (w2 u) → va_S A0 H0 H1 locs1 → H.size ≤ H1.size → W p l e R s m args below meth c H1 locs1 (cells + mc) (slots + ms) Q (F0 m (pc + 3) ls rest)) : W p l e R s m args below meth c H locs cells slots Q (F0 m pc ls st0) := by
  subst hs
  refine va_callv hr hS (fun q _ h => va_free hD hS hA isC hC q h) (fun q h => va_free hD hS hA isC hC q h) (fun u t H1 locs1 ht _ hw hB hz hk hS1 => ?_)
  obtain ⟨h2, h3⟩ := x_back (w1 := w1) (w2 := w2) u isC isR isB hP hD hS hA hC hR hn hdis (hB2 u) hn2 ht hk hB
  exact kk u H1 locs1 hw h2 h3 hS1 hz
/-- an answer that is a cell: its address is a part of u -/
theorem x_callr {S : Type} {post : S → Prop} {w1 w2 : S → Nat → va_W} {sA : Nat} (isC isR isB : List Nat) (hr : va_Run p l e R s m args below meth c H locs cells slots mc ms (F0 m pc ls st0) rest (va_Qr post (fun u ra t => xB D tys sA wc (w1 u ra) t) (va_A wc sA) a) (va_A wc sA)) (hs : H.size = sA)
    (hP : va_P D vwCl ws H) (hD : va_D A0 ws) (hS : va_S A0 H0 H locs) (hA : ∀ q, H0.size ≤ q → A0 q) (hC : isC.map (fun i => ws[i]?) = wc.map some) (hR : isR.map (fun i => ws[i]?) = wr.map some) (hn : va_nd isR = true) (hdis : ∀ i ∈ isR, i ∉ isC) (hB2 : ∀ (u : S) (ra : Nat), isB.map (fun i => (wr ++ w1 u ra)[i]?) = (w2 u ra).map some) (hn2 : va_nd isB = true)
    (kk : ∀ (u : S) (ra : Nat) (H1 : Heap) (locs1 : List Loc), post u → va_P D vwCl (w2 u ra) H1 → va_D A0 (w2 u ra) → va_S A0 H0 H1 locs1 → H.size ≤ H1.size → W p l e R s m args below meth c H1 locs1 (cells + mc) (slots + ms) Q (F0 m (pc + 3) ls (.ref ra :: rest))) : W p l e R s m args below meth c H locs cells slots Q (F0 m pc ls st0) := by
  subst hs
  refine va_callr hr hS (fun q _ h => va_free hD hS hA isC hC q h) (fun q h => va_free hD hS hA isC hC q h) (fun u ra t H1 locs1 ht _ hw hB hz hk hS1 => ?_)
  obtain ⟨h2, h3⟩ := x_back (S := S × Nat) (w1 := fun v => w1 v.1 v.2) (w2 := fun v => w2 v.1 v.2) (u, ra) isC isR isB hP hD hS hA hC hR hn hdis (hB2 u ra) hn2 ht hk hB
  exact kk u ra H1 locs1 hw h2 h3 hS1 hz
-- ends
theorem x_iret {S : Type} {post : Int32 → S → Prop} {w1 : S → va_W} {sA : Nat} {w0 : va_W} {r : Int32} {ty : FieldType} {A : Nat → Prop} (hQ : Q = MQ below (va_Qi post (fun u t => xB D tys sA w0 (w1 u) t) (va_A w0 sA)) args s mc ms (va_A w0 sA)) (hAe : A = va_A w0 sA) (hexec : p.tables.exec = Jvm.exec) (hb : c.code = cc) (hr : meth.sig.returnType = some ty) (hlocks : meth.locks = false) (hn : narrow ty (.int r) = .int r) (hS : va_S A s.heap H locs) (hK : va_K D vwCl tys s) (hmc : cells ≤ mc) (hms : slots ≤ ms) (hdg : decode cc pc = .ok (.ireturn, 1)) (u : S) (hP : va_P D vwCl (w1 u) H) (hD : va_D A (w1 u)) (hpost : post r u) : W p l e R s m args below meth c H locs cells slots Q (F0 m pc ls [.int r]) := by
  subst hAe hQ
  refine W.widen (k := mc) (n := ms) hmc hms ?_
  exact W.zret hexec hb hr hn (fun t ht hW => ⟨⟨r, u, rfl, hpost, by rw [ht]; exact hP, va_K.moved hW.alike hK, hD⟩, hS.F ht⟩) hS.2.2 hdg hlocks
theorem x_lret {S : Type} {post : Int64 → S → Prop} {w1 : S → va_W} {sA : Nat} {w0 : va_W} {r : Int64} {A : Nat → Prop} (hQ : Q = MQ below (va_Ql post (fun u t => xB D tys sA w0 (w1 u) t) (va_A w0 sA)) args s mc ms (va_A w0 sA)) (hAe : A = va_A w0 sA) (hexec : p.tables.exec = Jvm.exec) (hb : c.code = cc) (hr : meth.sig.returnType = some .long) (hlocks : meth.locks = false) (hS : va_S A s.heap H locs) (hK : va_K D vwCl tys s) (hmc : cells ≤ mc) (hms : slots ≤ ms) (hdg : decode cc pc = .ok (.lreturn, 1)) (u : S) (hP : va_P D vwCl (w1 u) H) (hD : va_D A (w1 u)) (hpost : post r u) : W p l e R s m args below meth c H locs cells slots Q (F0 m pc ls [.long r]) := by
  subst hAe hQ
  refine W.widen (k := mc) (n := ms) hmc hms ?_
  exact W.lret hexec hb hr (fun t ht hW => ⟨⟨r, u, rfl, hpost, by rw [ht]; exact hP, va_K.moved hW.alike hK, hD⟩, hS.F ht⟩) hS.2.2 hdg hlocks
theorem x_vret {S : Type} {post : S → Prop} {w1 : S → va_W} {sA : Nat} {w0 : va_W} {A : Nat → Prop} (hQ : Q = MQ below (va_Qv post (fun u t => xB D tys sA w0 (w1 u) t) (va_A w0 sA)) args s mc ms (va_A w0 sA)) (hAe : A = va_A w0 sA) (hexec : p.tables.exec = Jvm.exec) (hb : c.code = cc) (hr : meth.sig.returnType = none) (hlocks : meth.locks = false) (hS : va_S A s.heap H locs) (hK : va_K D vwCl tys s) (hmc : cells ≤ mc) (hms : slots ≤ ms) (hdg : decode cc pc = .ok (.return_, 1)) (u : S) (hP : va_P D vwCl (w1 u) H) (hD : va_D A (w1 u)) (hpost : post u) : W p l e R s m args below meth c H locs cells slots Q (F0 m pc ls []) := by
  subst hAe hQ
  refine W.widen (k := mc) (n := ms) hmc hms ?_
  exact W.vret hexec hb hr (fun t ht hW => ⟨⟨u, rfl, hpost, by rw [ht]; exact hP, va_K.moved hW.alike hK, hD⟩, hS.F ht⟩) hS.2.2 hdg hlocks
theorem x_aret {S : Type} {post : S → Prop} {w1 : S → Nat → va_W} {sA : Nat} {w0 : va_W} {ra : Nat} {rt : FieldType} {A : Nat → Prop} (hQ : Q = MQ below (va_Qr post (fun u ra t => xB D tys sA w0 (w1 u ra) t) (va_A w0 sA)) args s mc ms (va_A w0 sA)) (hAe : A = va_A w0 sA) (hexec : p.tables.exec = Jvm.exec) (hb : c.code = cc) (hr : meth.sig.returnType = some rt) (hrt : (∃ n, rt = .object n) ∨ ∃ t, rt = .array t) (hlocks : meth.locks = false) (hS : va_S A s.heap H locs) (hK : va_K D vwCl tys s) (hmc : cells ≤ mc) (hms : slots ≤ ms) (hdg : decode cc pc = .ok (.areturn, 1)) (u : S) (hP : va_P D vwCl (w1 u ra) H) (hD : va_D A (w1 u ra)) (hpost : post u) : W p l e R s m args below meth c H locs cells slots Q (F0 m pc ls [.ref ra]) := by
  subst hAe hQ
  refine W.widen (k := mc) (n := ms) hmc hms ?_
  exact W.aret hexec hb hr hrt (Or.inr ⟨ra, rfl⟩) (fun t ht hW => ⟨⟨u, ra, rfl, hpost, by rw [ht]; exact hP, va_K.moved hW.alike hK, hD⟩, hS.F ht⟩) hS.2.2 hdg hlocks
end XROWS
