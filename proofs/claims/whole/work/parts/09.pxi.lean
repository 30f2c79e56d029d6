/-! the common state (l the net, inp its inputs, ic how many, st whether the twin stands) and what NetTwin's cells hold of it -/
def tNet (l : NT) (inp : Nat → Nat) (ic : Nat) (st : Bool) : NT := if st = true then (match tBuild l inp ic with
  | some S => S.1
  | none => []) else []
def sL (l : NT) (inp : Nat → Nat) (ic : Nat) (st : Bool) (q : Int32) : NT := if q = 0 then l else tNet l inp ic st
def sGate (l : NT) (inp : Nat → Nat) (ic : Nat) (st : Bool) (q node which : Int32) : Int32 := if 0 ≤ node ∧ node < nI (sL l inp ic st q).length then (if which = 0 then gL (nAt (sL l inp ic st q) node.toNatClampNeg) else if which = 1 then gR (nAt (sL l inp ic st q) node.toNatClampNeg) else -1) else -1
def sTwin (l : NT) (inp : Nat → Nat) (ic : Nat) : Int32 := match tBuild l inp ic with
  | some S => nI S.1.length
  | none => -1
def sTwinOf (l : NT) (inp : Nat → Nat) (ic : Nat) (st : Bool) (lit q : Int32) : Int32 := if st = true then (match dO l.length lit, tBuild l inp ic with
  | some k, some S => if q = 0 then nI (litN S.2.1 k) else nI (S.2.2 (k / 2))
  | _, _ => -1) else -1
def sRow (ic : Nat) (f : Nat → Int32) (i bit : Int32) : Nat → Int32 := if 0 ≤ i ∧ i < nI ic then upd f i.toNatClampNeg (if bit = 0 then nI 0 else nI 1) else f
def sSetB (ic : Nat) (b : Nat → Int32) (i q bit : Int32) : Nat → Int32 := if q = 0 then sRow ic b i bit else b
def sSetT (ic : Nat) (t : Nat → Int32) (i q bit : Int32) : Nat → Int32 := if q = 0 then t else sRow ic t i bit
def sSetR (ic : Nat) (b t : Nat → Int32) (i q : Int32) : Int32 := if 0 ≤ i ∧ i < nI ic then (if q = 0 then b i.toNatClampNeg else t i.toNatClampNeg) else -1
def nXa (M : Nat) (l : NT) (x y : Option Nat) : Option Nat × NT := nAnd M l x (nNot y)
def nXb (M : Nat) (l : NT) (x y : Option Nat) : Option Nat × NT := nAnd M (nXa M l x y).2 (nNot x) y
def nXor (M : Nat) (l : NT) (x y : Option Nat) : Option Nat × NT := nOr M (nXb M l x y).2 (nXa M l x y).1 (nXb M l x y).1
def nCa (M : Nat) (l : NT) (z x : Option Nat) : Option Nat × NT := nAnd M l z x
def nCb (M : Nat) (l : NT) (z x y : Option Nat) : Option Nat × NT := nAnd M (nCa M l z x).2 (nNot z) y
def nCh (M : Nat) (l : NT) (z x y : Option Nat) : Option Nat × NT := nOr M (nCb M l z x y).2 (nCa M l z x).1 (nCb M l z x y).1
def sCh (l : NT) (z x y : Int32) : Option Nat × NT := match dO l.length z, dO l.length x, dO l.length y with
  | some i, some j, some k => nCh 400 l (some i) (some j) (some k)
  | _, _, _ => (none, l)
/-- what NetTwin's cells hold -/
def XI (l : NT) (inp : Nat → Nat) (ic : Nat) (st : Bool) (lf of nf : Nat → Int32) (wf : Nat → Int64) (tlf tof tnf : Nat → Int32) (twf : Nat → Int64) (tnc tic : Nat) (tw : Int32) (vl tl : Nat → Int32) (ww : Nat → Int64) : Prop :=
  NI l inp ic ∧ rpN l lf of ∧ (∀ i, i < ic → nf i = nI (inp i)) ∧ (wf 0 = 0 ∧ twf 0 = 0 ∧ ww 0 = 0 ∧ tlf 0 = -1 ∧ tof 0 = -1) ∧ (st = false → tw = -1 ∨ ∃ n, n < l.length ∧ tw = nI n) ∧ (st = true → tw = nI l.length ∧ ∃ S, tBuild l inp ic = some S ∧ twH l ic S vl tl tlf tof tnf tnc tic)
theorem NI_len {l : NT} {inp : Nat → Nat} {ic : Nat} (h : NI l inp ic) : l.length ≤ 465 := by
  obtain ⟨-, h1, h2, h3, -⟩ := h
  omega
theorem NI_input {l : NT} {inp : Nat → Nat} {ic : Nat} (h : NI l inp ic) (hi : ic < 64) : NI (l ++ [none]) (updN inp ic l.length) (ic + 1) := by
  obtain ⟨hok, hg, hgM, hic, hi1, hi2, hi3⟩ := h
  have eL : (l ++ [(none : Option (Nat × Nat))]).length = l.length + 1 := by simp
  refine ⟨⟨by rw [eL]; omega, by rw [nAt_app hok.1]; exact hok.2.1, fun k a b hk => ?_⟩, by rw [nGates_none, eL]; omega, by rw [nGates_none]; omega, by omega, fun i hi2 => ?_, fun i j hi9 hj2 hij => ?_, fun k hk hz => ?_⟩
  · rw [nAt_snoc] at hk
    split at hk
    · cases hk
    · exact hok.2.2 k a b hk
  · by_cases e : i = ic
    · subst e
      rw [updN_s, eL, nAt_last]
      exact ⟨by omega, hok.1, rfl⟩
    · rw [updN_n e, eL]
      have h1 := hi1 i (by omega)
      rw [nAt_app h1.1]
      exact ⟨by omega, h1.2⟩
  · by_cases e : i = ic
    · by_cases e2 : j = ic
      · omega
      · subst e
        rw [updN_s, updN_n e2] at hij
        have := (hi1 j (by omega)).1
        omega
    · by_cases e2 : j = ic
      · subst e2
        rw [updN_s, updN_n e] at hij
        have := (hi1 i (by omega)).1
        omega
      · rw [updN_n e, updN_n e2] at hij
        exact hi2 i j (by omega) (by omega) hij
  · by_cases e : k = l.length
    · exact Or.inr ⟨ic, by omega, by rw [updN_s]; exact e.symm⟩
    · rw [eL] at hk
      rw [nAt_app (by omega)] at hz
      rcases hi3 k (by omega) hz with h0 | ⟨i, hi2, e2⟩
      · exact Or.inl h0
      · exact Or.inr ⟨i, by omega, by rw [updN_n (by omega)]; exact e2⟩
theorem NI_grow {l : NT} {inp : Nat → Nat} {ic : Nat} {R : Option Nat × NT} (h : NI l inp ic) (k : kept 400 l R) : NI R.2 inp ic := by
  obtain ⟨hok, hg, hgM, hic, hi1, hi2, hi3⟩ := h
  obtain ⟨k1, k2, k3, k4, k5, r, k6⟩ := k
  refine ⟨k1, by omega, k3, hic, fun i hi => ?_, hi2, fun j hj hz => ?_⟩
  · have h1 := hi1 i hi
    refine ⟨by omega, h1.2.1, ?_⟩
    rw [k6, nAt_app h1.1]
    exact h1.2.2
  · by_cases e : j < l.length
    · rw [k6, nAt_app e] at hz
      exact hi3 j e hz
    · exfalso
      have e2 : nGates R.2 = nGates l + nGates r := by rw [k6]; simp [nGates, List.countP_append]
      have e3 : R.2.length = l.length + r.length := by rw [k6, List.length_append]
      have e4 : nGates r = r.length := by omega
      have e5 : ∀ g ∈ r, g.isSome = true := List.countP_eq_length.mp e4
      have hj2 : j - l.length < r.length := by omega
      have e6 := e5 r[j - l.length] (List.getElem_mem hj2)
      have e7 : nAt R.2 j = r[j - l.length] := by
        rw [k6]
        simp [nAt, List.getD_eq_getElem?_getD, List.getElem?_append_right (show l.length ≤ j by omega), hj2]
      rw [e7] at hz
      rw [hz] at e6
      cases e6
theorem kept_same {M : Nat} {l : NT} {R : Option Nat × NT} (k : kept M l R) (h : R.2.length = l.length) : R.2 = l := by
  obtain ⟨-, -, -, -, -, r, k6⟩ := k
  have e : r.length = 0 := by
    have := congrArg List.length k6
    rw [List.length_append] at this
    omega
  rw [List.length_eq_zero_iff.mp e, List.append_nil] at k6
  exact k6
theorem kept_id {M : Nat} {l : NT} (hok : nOK l) (hM : nGates l ≤ M) : kept M l (none, l) := ⟨hok, vO_none, hM, rfl, Nat.le_refl _, [], by simp⟩
/-- whether the twin stands behind a making -/
def stG (st : Bool) (l l2 : NT) : Bool := st && decide (l2.length = l.length)
theorem XI_grow {l : NT} {inp : Nat → Nat} {ic : Nat} {st : Bool} {lf of nf : Nat → Int32} {wf : Nat → Int64} {tlf tof tnf : Nat → Int32} {twf : Nat → Int64} {tnc tic : Nat} {tw : Int32} {vl tl : Nat → Int32} {ww : Nat → Int64} {R : Option Nat × NT} {lf2 of2 : Nat → Int32}
    (h : XI l inp ic st lf of nf wf tlf tof tnf twf tnc tic tw vl tl ww) (k : kept 400 l R) (hr : rpN R.2 lf2 of2) : XI R.2 inp ic (stG st l R.2) lf2 of2 nf wf tlf tof tnf twf tnc tic tw vl tl ww := by
  obtain ⟨hN, h1, h2, h3, h4, h5⟩ := h
  refine ⟨NI_grow hN k, hr, h2, h3, fun hs => ?_, fun hs => ?_⟩
  · cases st with
    | false =>
      rcases h4 rfl with e | ⟨n, hn, e⟩
      · exact Or.inl e
      · exact Or.inr ⟨n, Nat.lt_of_lt_of_le hn k.2.2.2.2.1, e⟩
    | true =>
      have hne : ¬ R.2.length = l.length := by simpa [stG] using hs
      have := k.2.2.2.2.1
      exact Or.inr ⟨l.length, by omega, (h5 rfl).1⟩
  · cases st with
    | false => cases hs
    | true =>
      have he : R.2.length = l.length := by simpa [stG] using hs
      rw [kept_same k he]
      exact h5 rfl
theorem XI_input {l : NT} {inp : Nat → Nat} {ic : Nat} {st : Bool} {lf of nf : Nat → Int32} {wf : Nat → Int64} {tlf tof tnf : Nat → Int32} {twf : Nat → Int64} {tnc tic : Nat} {tw : Int32} {vl tl : Nat → Int32} {ww : Nat → Int64}
    (h : XI l inp ic st lf of nf wf tlf tof tnf twf tnc tic tw vl tl ww) (hi : ic < 64) : XI (l ++ [none]) (updN inp ic l.length) (ic + 1) false (upd lf l.length (-1)) (upd of l.length (-1)) (upd nf ic (nI l.length)) wf tlf tof tnf twf tnc tic tw vl tl ww := by
  obtain ⟨hN, h1, h2, h3, h4, h5⟩ := h
  refine ⟨NI_input hN hi, rpN_snoc h1 none, fun i hi2 => ?_, h3, fun _ => ?_, fun hs => by cases hs⟩
  · by_cases e : i = ic
    · subst e; rw [updN_s, pk_us]
    · rw [updN_n e, pk_un e]; exact h2 i (by omega)
  · have eL : (l ++ [(none : Option (Nat × Nat))]).length = l.length + 1 := by simp
    cases st with
    | false =>
      rcases h4 rfl with e | ⟨n, hn, e⟩
      · exact Or.inl e
      · exact Or.inr ⟨n, by omega, e⟩
    | true => exact Or.inr ⟨l.length, by omega, (h5 rfl).1⟩
theorem XI_st {l : NT} {inp : Nat → Nat} {ic : Nat} {st : Bool} {lf of nf : Nat → Int32} {wf : Nat → Int64} {tlf tof tnf : Nat → Int32} {twf : Nat → Int64} {tnc tic : Nat} {tw : Int32} {vl tl : Nat → Int32} {ww : Nat → Int64}
    (h : XI l inp ic st lf of nf wf tlf tof tnf twf tnc tic tw vl tl ww) : tw = nI l.length ↔ st = true := by
  have hl := NI_len h.1
  obtain ⟨hN, h1, h2, h3, h4, h5⟩ := h
  constructor
  · intro e
    cases st with
    | true => rfl
    | false =>
      exfalso
      rcases h4 rfl with e2 | ⟨n, hn, e2⟩
      · exact n_m1 (a := l.length) (by omega) (e.symm.trans e2)
      · have := (nI_eq (by omega) (by omega)).mp (e.symm.trans e2)
        omega
  · intro e
    exact (h5 e).1
theorem XI_tw {l : NT} {inp : Nat → Nat} {ic : Nat} {st : Bool} {lf of nf : Nat → Int32} {wf : Nat → Int64} {tlf tof tnf : Nat → Int32} {twf : Nat → Int64} {tnc tic : Nat} {tw : Int32} {vl tl : Nat → Int32} {ww : Nat → Int64}
    (h : XI l inp ic st lf of nf wf tlf tof tnf twf tnc tic tw vl tl ww) (hs : st = true) : ∃ S, tBuild l inp ic = some S ∧ twH l ic S vl tl tlf tof tnf tnc tic ∧ tOK l ic l.length S ∧ tNet l inp ic st = S.1 ∧ S.1.length ≤ 1629 := by
  obtain ⟨hN, h1, h2, h3, h4, h5⟩ := h
  obtain ⟨-, S, hS, hT⟩ := h5 hs
  have ht := tLoop_ok hN l.length (Nat.le_refl _) S hS
  refine ⟨S, hS, hT, ht, by rw [tNet, if_pos hs, hS], ?_⟩
  have h6 := ht.2.1
  have h7 := ht.2.2.1
  have h8 := hN.2.2.2.1
  omega
theorem tNet_f {l : NT} {inp : Nat → Nat} {ic : Nat} {st : Bool} (h : ¬ st = true) : tNet l inp ic st = [] := if_neg h
theorem tNet_len {l : NT} {inp : Nat → Nat} {ic : Nat} {st : Bool} (h : NI l inp ic) : (tNet l inp ic st).length ≤ 1629 := by
  unfold tNet
  split
  · cases hS : tBuild l inp ic with
    | none => simp
    | some S =>
      have ht := tLoop_ok h l.length (Nat.le_refl _) S hS
      have h6 := ht.2.1
      have h7 := ht.2.2.1
      have h8 := h.2.2.2.1
      show S.1.length ≤ 1629
      omega
  · simp
theorem sL_len {l : NT} {inp : Nat → Nat} {ic : Nat} {st : Bool} {q : Int32} (h : NI l inp ic) : (sL l inp ic st q).length ≤ 1629 := by
  unfold sL
  split
  · have := NI_len h; omega
  · exact tNet_len h
theorem kept_xor {M : Nat} {l : NT} {x y : Option Nat} (hok : nOK l) (hx : vO l.length x) (hy : vO l.length y) (hM : nGates l ≤ M) : kept M l (nXa M l x y) ∧ kept M l (nXb M l x y) ∧ kept M l (nXor M l x y) ∧ vO (nXb M l x y).2.length (nXa M l x y).1 := by
  have k1 : kept M l (nXa M l x y) := kept_and hok hx (vO_not hy) hM
  have l1 := k1.2.2.2.2.1
  have k2' : kept M (nXa M l x y).2 (nXb M l x y) := kept_and k1.1 (vO_mono (vO_not hx) l1) (vO_mono hy l1) k1.2.2.1
  have v1 := vO_mono k1.2.1 k2'.2.2.2.2.1
  have k2 := kept_tr k1 k2'
  exact ⟨k1, k2, kept_tr k2 (kept_or k2.1 v1 k2.2.1 k2.2.2.1), v1⟩
theorem kept_ch {M : Nat} {l : NT} {z x y : Option Nat} (hok : nOK l) (hz : vO l.length z) (hx : vO l.length x) (hy : vO l.length y) (hM : nGates l ≤ M) : kept M l (nCa M l z x) ∧ kept M l (nCb M l z x y) ∧ kept M l (nCh M l z x y) ∧ vO (nCb M l z x y).2.length (nCa M l z x).1 := by
  have k1 : kept M l (nCa M l z x) := kept_and hok hz hx hM
  have l1 := k1.2.2.2.2.1
  have k2' : kept M (nCa M l z x).2 (nCb M l z x y) := kept_and k1.1 (vO_mono (vO_not hz) l1) (vO_mono hy l1) k1.2.2.1
  have v1 := vO_mono k1.2.1 k2'.2.2.2.2.1
  have k2 := kept_tr k1 k2'
  exact ⟨k1, k2, kept_tr k2 (kept_or k2.1 v1 k2.2.1 k2.2.2.1), v1⟩
/-- a literal keeps its meaning where the net has grown by a making that used it -/
theorem dO_mono {n m : Nat} {x : Int32} {k : Nat} (hm : m < 100000) (h : dO n x = some k) (hn : n ≤ m) : dO m x = some k := by
  rcases dO_cases (show n < 100000 by omega) x with ⟨-, e⟩ | ⟨j, hj, rfl, e, -⟩
  · rw [e] at h; cases h
  · rw [e] at h; cases h
    exact dO_nI hm (by omega)
theorem dO_same {l l2 : NT} {x : Int32} {o : Option Nat} (hm : l2.length < 100000) (hn : l.length ≤ l2.length) (ho : dO l.length x = o) (h : o = none → l2 = l) : dO l2.length x = o := by
  cases o with
  | none => rw [h rfl]; exact ho
  | some k => exact dO_mono hm ho hn
theorem nAnd_nl {M : Nat} {l : NT} {x y : Option Nat} (h : x = none ∨ y = none) : nAnd M l x y = (none, l) := by
  rcases h with rfl | rfl
  · exact nAnd_l M l y
  · exact nAnd_r M l x
theorem nNot_none {x : Option Nat} : nNot x = none ↔ x = none := by cases x <;> simp [nNot]
