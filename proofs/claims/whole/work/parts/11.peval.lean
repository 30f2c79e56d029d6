/-! the bits of all nodes, as truth values; words (lane by lane) and ints against them -/
def updB (f : Nat → Bool) (k : Nat) (b : Bool) : Nat → Bool := fun j => if j = k then b else f j
theorem updB_s {f : Nat → Bool} {k : Nat} {b : Bool} : updB f k b k = b := by simp [updB]
theorem updB_n {f : Nat → Bool} {k j : Nat} {b : Bool} (h : j ≠ k) : updB f k b j = f j := by simp [updB, h]
def litB (v : Nat → Bool) (k : Nat) : Bool := if k % 2 = 0 then v (k / 2) else !(v (k / 2))
def evl (L : NT) (v : Nat → Bool) : Nat → (Nat → Bool)
  | 0 => v
  | n + 1 => match nAt L n with
    | none => evl L v n
    | some q => updB (evl L v n) n (litB (evl L v n) q.1 && litB (evl L v n) q.2)
def evT (L : NT) (v t : Nat → Bool) : Nat → (Nat → Bool)
  | 0 => t
  | n + 1 => match nAt L n with
    | none => evT L v t n
    | some q => updB (evT L v t n) n ((((evT L v t n) (q.1 / 2) && litB v q.2) || ((evT L v t n) (q.2 / 2) && litB v q.1)) || ((evT L v t n) (q.1 / 2) && (evT L v t n) (q.2 / 2)))
def setB (inp : Nat → Nat) (g : Nat → Bool) : Nat → (Nat → Bool)
  | 0 => fun _ => false
  | i + 1 => updB (setB inp g i) (inp i) (g i)
def setTB (b t : Nat → Bool) (ic : Nat) : Nat → (Nat → Bool)
  | 0 => fun _ => false
  | i + 1 => updB (updB (setTB b t ic i) (1 + i) (b i)) (1 + (ic + i)) (t i)
def nz (f : Nat → Int32) (i : Nat) : Bool := decide (¬ f i = 0)
def rnk (t : Nat → Bool) : Nat → Nat
  | 0 => 0
  | i + 1 => if t i = true then rnk t i + 1 else rnk t i
def leafS (b t : Nat → Bool) (s i : Nat) : Bool := if t i = true then s.testBit (rnk t i) else b i
def sBit (l : NT) (inp : Nat → Nat) (ic : Nat) (st : Bool) (bb tt : Nat → Int32) (q lit : Int32) : Int32 := match dO (sL l inp ic st q).length lit with
  | none => -1
  | some k => bI (litB (evl (sL l inp ic st q) (if q = 0 then setB inp (nz bb) ic else setTB (nz bb) (nz tt) ic ic) (sL l inp ic st q).length) k = true)
def sTaint (l : NT) (inp : Nat → Nat) (ic : Nat) (bb tt : Nat → Int32) (lit : Int32) : Int32 := match dO l.length lit with
  | none => -1
  | some k => bI (evT l (evl l (setB inp (nz bb) ic) l.length) (setB inp (nz tt) ic) l.length (k / 2) = true)
def hCur (l : NT) (inp : Nat → Nat) (ic : Nat) (bb : Nat → Int32) (k : Nat) : Bool := litB (evl l (setB inp (nz bb) ic) l.length) k
def hAt (l : NT) (inp : Nat → Nat) (ic : Nat) (bb tt : Nat → Int32) (k s : Nat) : Bool := litB (evl l (setB inp (leafS (nz bb) (nz tt) s) ic) l.length) k
def hYes (l : NT) (inp : Nat → Nat) (ic : Nat) (bb tt : Nat → Int32) (k : Nat) : Bool := (List.range 256).any (fun s => hAt l inp ic bb tt k s != hCur l inp ic bb k)
def sHangs (l : NT) (inp : Nat → Nat) (ic : Nat) (bb tt : Nat → Int32) (lit : Int32) : Int32 := match dO l.length lit with
  | none => -1
  | some k => if 8 < rnk (nz tt) ic then -1 else bI (hYes l inp ic bb tt k = true)
theorem hYes_iff {l : NT} {inp : Nat → Nat} {ic : Nat} {bb tt : Nat → Int32} {k : Nat} : hYes l inp ic bb tt k = true ↔ ∃ s, s < 256 ∧ hAt l inp ic bb tt k s ≠ hCur l inp ic bb k := by
  unfold hYes
  rw [List.any_eq_true]
  constructor
  · rintro ⟨s, h1, h2⟩
    exact ⟨s, List.mem_range.mp h1, by simpa using h2⟩
  · rintro ⟨s, h1, h2⟩
    exact ⟨s, List.mem_range.mpr h1, by simpa using h2⟩
theorem evl_n {L : NT} {v : Nat → Bool} {n : Nat} (h : nAt L n = none) : evl L v (n + 1) = evl L v n := by simp only [evl, h]
theorem evl_g {L : NT} {v : Nat → Bool} {n a b : Nat} (h : nAt L n = some (a, b)) : evl L v (n + 1) = updB (evl L v n) n (litB (evl L v n) a && litB (evl L v n) b) := by simp only [evl, h]
theorem evT_n {L : NT} {v t : Nat → Bool} {n : Nat} (h : nAt L n = none) : evT L v t (n + 1) = evT L v t n := by simp only [evT, h]
theorem evT_g {L : NT} {v t : Nat → Bool} {n a b : Nat} (h : nAt L n = some (a, b)) : evT L v t (n + 1) = updB (evT L v t n) n ((((evT L v t n) (a / 2) && litB v b) || ((evT L v t n) (b / 2) && litB v a)) || ((evT L v t n) (a / 2) && (evT L v t n) (b / 2))) := by simp only [evT, h]
theorem setB_in {inp : Nat → Nat} {g : Nat → Bool} {ic : Nat} (hinj : ∀ i j, i < ic → j < ic → inp i = inp j → i = j) : ∀ n, n ≤ ic → ∀ i, i < n → setB inp g n (inp i) = g i := by
  intro n
  induction n with
  | zero => intro _ i hi; omega
  | succ n ih =>
    intro hn i hi
    show updB (setB inp g n) (inp n) (g n) (inp i) = g i
    by_cases e : i = n
    · subst e; exact updB_s
    · rw [updB_n (fun z => e (hinj i n (by omega) (by omega) z))]
      exact ih (by omega) i (by omega)
theorem setB_out {inp : Nat → Nat} {g : Nat → Bool} {n k : Nat} (h : ∀ i, i < n → inp i ≠ k) : setB inp g n k = false := by
  induction n with
  | zero => rfl
  | succ n ih =>
    show updB (setB inp g n) (inp n) (g n) k = false
    rw [updB_n (fun z => h n (by omega) z.symm)]
    exact ih (fun i hi => h i (by omega))
theorem setTB_b {b t : Nat → Bool} {ic : Nat} : ∀ n, n ≤ ic → ∀ i, i < n → setTB b t ic n (1 + i) = b i ∧ setTB b t ic n (1 + (ic + i)) = t i := by
  intro n
  induction n with
  | zero => intro _ i hi; omega
  | succ n ih =>
    intro hn i hi
    show updB (updB (setTB b t ic n) (1 + n) (b n)) (1 + (ic + n)) (t n) (1 + i) = b i ∧ updB (updB (setTB b t ic n) (1 + n) (b n)) (1 + (ic + n)) (t n) (1 + (ic + i)) = t i
    by_cases e : i = n
    · subst e
      rw [updB_n (by omega), updB_s, updB_s]
      exact ⟨rfl, rfl⟩
    · rw [updB_n (by omega), updB_n (by omega), updB_n (by omega), updB_n (by omega)]
      exact ih (by omega) i (by omega)
theorem setTB_0 {b t : Nat → Bool} {ic n : Nat} : setTB b t ic n 0 = false := by
  induction n with
  | zero => rfl
  | succ n ih =>
    show updB (updB (setTB b t ic n) (1 + n) (b n)) (1 + (ic + n)) (t n) 0 = false
    rw [updB_n (by omega), updB_n (by omega)]
    exact ih
-- lanes of words
def ln (j : Nat) (w : Int64) : Bool := w.toBitVec.getLsbD j
theorem ln_and (j : Nat) (a b : Int64) : ln j (a &&& b) = (ln j a && ln j b) := by unfold ln; rw [Int64.toBitVec_and, BitVec.getLsbD_and]
theorem ln_or (j : Nat) (a b : Int64) : ln j (a ||| b) = (ln j a || ln j b) := by unfold ln; rw [Int64.toBitVec_or, BitVec.getLsbD_or]
theorem ln_m1 {j : Nat} (h : j < 64) : ln j (-1) = true := by
  unfold ln
  have e : (-1 : Int64).toBitVec = BitVec.allOnes 64 := by decide
  rw [e, BitVec.getLsbD_allOnes]
  simp [h]
theorem ln_0 (j : Nat) : ln j 0 = false := by
  unfold ln
  have e : (0 : Int64).toBitVec = 0#64 := by decide
  rw [e]
  exact BitVec.getLsbD_zero
theorem ln_neg {j : Nat} (h : j < 64) (a : Int64) : ln j (a ^^^ (-1)) = !(ln j a) := by
  have e : ln j (a ^^^ (-1)) = (ln j a ^^ ln j (-1)) := by unfold ln; rw [Int64.toBitVec_xor, BitVec.getLsbD_xor]
  rw [e, ln_m1 h]
  cases ln j a <;> rfl
theorem ln_ext {a b : Int64} (h : ∀ j, j < 64 → ln j a = ln j b) : a = b := by
  apply Int64.toBitVec_inj.mp
  apply BitVec.eq_of_getLsbD_eq
  intro j hj
  exact h j hj
theorem ln_wob {j : Nat} (h : j < 64) (b : Int32) : ln j (wob b) = decide (¬ b = 0) := by
  unfold wob
  by_cases e : b = 0
  · rw [if_pos e, ln_0]; simp [e]
  · rw [if_neg e, ln_m1 h]; simp [e]
theorem ln_litW {j : Nat} (h : j < 64) {w : Nat → Int64} {v : Nat → Bool} {k : Nat} (e : ln j (w (k / 2)) = v (k / 2)) : ln j (litW w k) = litB v k := by
  unfold litW litB
  by_cases hk : k % 2 = 0
  · rw [if_pos hk, if_pos hk]; exact e
  · rw [if_neg hk, if_neg hk, ln_neg h, e]
theorem bitW_ln (w : Int64) : bitW w = bI (ln 0 w = true) := by
  have e : w &&& 1 = 0 ↔ ln 0 w = false := by
    constructor
    · intro h
      have h1 := congrArg (ln 0) h
      rw [ln_and, ln_0] at h1
      have h2 : ln 0 (1 : Int64) = true := by decide
      rw [h2, Bool.and_true] at h1
      exact h1
    · intro h
      apply ln_ext
      intro j hj
      rw [ln_and, ln_0]
      by_cases e : j = 0
      · subst e; rw [h]; rfl
      · have h2 : ln j (1 : Int64) = false := by
          unfold ln
          have e2 : (1 : Int64).toBitVec = 1#64 := by decide
          rw [e2, BitVec.getLsbD_one]
          simp [e]
        rw [h2, Bool.and_false]
  unfold bitW
  by_cases h : w &&& 1 = 0
  · rw [if_pos h]
    have h1 := e.mp h
    rw [bI, if_neg (by rw [h1]; decide)]
  · rw [if_neg h]
    have h1 : ln 0 w = true := by
      cases h2 : ln 0 w with
      | true => rfl
      | false => exact absurd (e.mpr h2) h
    rw [bI, if_pos h1]
theorem sprd_ln {l : NT} {j : Nat} (hj : j < 64) (hok : nOK l) {w : Nat → Int64} {v : Nat → Bool} (hv : ∀ k, k < l.length → nAt l k = none → ln j (w k) = v k) : ∀ n, n ≤ l.length → ∀ k, k < l.length → (k < n ∨ nAt l k = none) → ln j (sprd l w n k) = evl l v n k := by
  intro n
  induction n with
  | zero => intro _ k hk hz; exact hv k hk (hz.elim (fun z => absurd z (Nat.not_lt_zero k)) id)
  | succ n ih =>
    intro hn k hk hz
    cases hg : nAt l n with
    | none =>
      rw [sprd_n hg, evl_n hg]
      by_cases e : k = n
      · subst e; exact ih (by omega) k hk (Or.inr hg)
      · exact ih (by omega) k hk (hz.imp (fun z => by omega) id)
    | some q =>
      obtain ⟨a, b⟩ := q
      have hq := hok.2.2 n a b hg
      rw [sprd_g hg, evl_g hg]
      by_cases e : k = n
      · subst e
        rw [pk_uLs, updB_s, ln_and, ln_litW hj (ih (by omega) (a / 2) (by omega) (Or.inl (by omega))), ln_litW hj (ih (by omega) (b / 2) (by omega) (Or.inl (by omega)))]
      · rw [pk_uLn e, updB_n e]
        exact ih (by omega) k hk (hz.imp (fun z => by omega) id)
theorem sprd_leaf {l : NT} {w : Nat → Int64} {k : Nat} (h : nAt l k = none) : ∀ n, sprd l w n k = w k := by
  intro n
  induction n with
  | zero => rfl
  | succ n ih =>
    cases hg : nAt l n with
    | none => rw [sprd_n hg]; exact ih
    | some q =>
      obtain ⟨a, b⟩ := q
      rw [sprd_g hg, pk_uLn (fun z => by rw [z, hg] at h; cases h)]
      exact ih
theorem tspr_ln {l : NT} {j : Nat} (hj : j < 64) (hok : nOK l) {w t : Nat → Int64} {v u : Nat → Bool} (hw : ∀ k, k < l.length → ln j (w k) = v k) (hu : ∀ k, k < l.length → nAt l k = none → ln j (t k) = u k) : ∀ n, n ≤ l.length → ∀ k, k < l.length → (k < n ∨ nAt l k = none) → ln j (tspr l w t n k) = evT l v u n k := by
  intro n
  induction n with
  | zero => intro _ k hk hz; exact hu k hk (hz.elim (fun z => absurd z (Nat.not_lt_zero k)) id)
  | succ n ih =>
    intro hn k hk hz
    cases hg : nAt l n with
    | none =>
      rw [tspr_n hg, evT_n hg]
      by_cases e : k = n
      · subst e; exact ih (by omega) k hk (Or.inr hg)
      · exact ih (by omega) k hk (hz.imp (fun z => by omega) id)
    | some q =>
      obtain ⟨a, b⟩ := q
      have hq := hok.2.2 n a b hg
      rw [tspr_g hg, evT_g hg]
      by_cases e : k = n
      · subst e
        rw [pk_uLs, updB_s, ln_or, ln_or, ln_and, ln_and, ln_and, ih (by omega) (a / 2) (by omega) (Or.inl (by omega)), ih (by omega) (b / 2) (by omega) (Or.inl (by omega)), ln_litW hj (hw (a / 2) (by omega)), ln_litW hj (hw (b / 2) (by omega))]
      · rw [pk_uLn e, updB_n e]
        exact ih (by omega) k hk (hz.imp (fun z => by omega) id)
theorem tspr_leaf {l : NT} {w t : Nat → Int64} {k : Nat} (h : nAt l k = none) : ∀ n, tspr l w t n k = t k := by
  intro n
  induction n with
  | zero => rfl
  | succ n ih =>
    cases hg : nAt l n with
    | none => rw [tspr_n hg]; exact ih
    | some q =>
      obtain ⟨a, b⟩ := q
      rw [tspr_g hg, pk_uLn (fun z => by rw [z, hg] at h; cases h)]
      exact ih
theorem setW_in {inp : Nat → Nat} {b : Nat → Int32} {w : Nat → Int64} {ic : Nat} (hinj : ∀ i j, i < ic → j < ic → inp i = inp j → i = j) : ∀ n, n ≤ ic → ∀ i, i < n → setW inp b w n (inp i) = wob (b i) := by
  intro n
  induction n with
  | zero => intro _ i hi; omega
  | succ n ih =>
    intro hn i hi
    show vp_updL (setW inp b w n) (inp n) (wob (b n)) (inp i) = wob (b i)
    by_cases e : i = n
    · subst e; exact pk_uLs
    · rw [pk_uLn (fun z => e (hinj i n (by omega) (by omega) z))]
      exact ih (by omega) i (by omega)
theorem setW_out {inp : Nat → Nat} {b : Nat → Int32} {w : Nat → Int64} {n k : Nat} (h : ∀ i, i < n → inp i ≠ k) : setW inp b w n k = w k := by
  induction n with
  | zero => rfl
  | succ n ih =>
    show vp_updL (setW inp b w n) (inp n) (wob (b n)) k = w k
    rw [pk_uLn (fun z => h n (by omega) z.symm)]
    exact ih (fun i hi => h i (by omega))
theorem setT_b {b t : Nat → Int32} {ic : Nat} {w : Nat → Int64} : ∀ n, n ≤ ic → ∀ i, i < n → setT b t ic w n (1 + i) = wob (b i) ∧ setT b t ic w n (1 + (ic + i)) = wob (t i) := by
  intro n
  induction n with
  | zero => intro _ i hi; omega
  | succ n ih =>
    intro hn i hi
    show vp_updL (vp_updL (setT b t ic w n) (1 + n) (wob (b n))) (1 + (ic + n)) (wob (t n)) (1 + i) = wob (b i) ∧ vp_updL (vp_updL (setT b t ic w n) (1 + n) (wob (b n))) (1 + (ic + n)) (wob (t n)) (1 + (ic + i)) = wob (t i)
    by_cases e : i = n
    · subst e
      rw [pk_uLn (by omega), pk_uLs, pk_uLs]
      exact ⟨rfl, rfl⟩
    · rw [pk_uLn (by omega), pk_uLn (by omega), pk_uLn (by omega), pk_uLn (by omega)]
      exact ih (by omega) i (by omega)
theorem setT_0 {b t : Nat → Int32} {ic n : Nat} {w : Nat → Int64} : setT b t ic w n 0 = w 0 := by
  induction n with
  | zero => rfl
  | succ n ih =>
    show vp_updL (vp_updL (setT b t ic w n) (1 + n) (wob (b n))) (1 + (ic + n)) (wob (t n)) 0 = w 0
    rw [pk_uLn (by omega), pk_uLn (by omega)]
    exact ih
theorem NI_0 {l : NT} {inp : Nat → Nat} {ic : Nat} (h : NI l inp ic) : ∀ i, i < ic → inp i ≠ 0 := fun i hi z => by have := (h.2.2.2.2.1 i hi).2.1; omega
theorem setW_leaf {l : NT} {inp : Nat → Nat} {ic j : Nat} {b : Nat → Int32} {w : Nat → Int64} (h : NI l inp ic) (hj : j < 64) (hw : w 0 = 0) : ∀ k, k < l.length → nAt l k = none → ln j (setW inp b w ic k) = setB inp (nz b) ic k := by
  intro k hk hz
  have h0 := NI_0 h
  obtain ⟨-, -, -, -, hin, hinj, hcov⟩ := h
  rcases hcov k hk hz with rfl | ⟨i, hi, rfl⟩
  · rw [setW_out h0, setB_out h0, hw, ln_0]
  · rw [setW_in hinj ic (Nat.le_refl _) i hi, setB_in hinj ic (Nat.le_refl _) i hi, ln_wob hj]
    rfl
/-- the nodes of a built twin that are no gates are node 0 and its inputs -/
theorem twin_leaf {l : NT} {ic : Nat} {S : NT × (Nat → Nat) × (Nat → Nat)} (hp : ∃ r, S.1 = List.replicate (1 + (ic + ic)) none ++ r ∧ ∀ g ∈ r, g.isSome = true) {k : Nat} (hk : k < S.1.length) (hz : nAt S.1 k = none) : k < 1 + (ic + ic) := by
  obtain ⟨r, e, hr⟩ := hp
  rcases Nat.lt_or_ge k (1 + (ic + ic)) with h | h
  · exact h
  · exfalso
    rw [e] at hz hk
    rw [List.length_append, List.length_replicate] at hk
    have hk2 : k - (1 + (ic + ic)) < r.length := by omega
    have e7 : nAt (List.replicate (1 + (ic + ic)) none ++ r) k = r[k - (1 + (ic + ic))] := by
      simp [nAt, List.getD_eq_getElem?_getD, List.getElem?_append_right (show (List.replicate (1 + (ic + ic)) (none : Option (Nat × Nat))).length ≤ k by rw [List.length_replicate]; omega), hk2]
    have e6 := hr r[k - (1 + (ic + ic))] (List.getElem_mem hk2)
    rw [e7] at hz
    rw [hz] at e6
    cases e6
theorem kept_some {M : Nat} {l : NT} {R : Option Nat × NT} (k : kept M l R) : ∃ r, R.2 = l ++ r ∧ ∀ g ∈ r, g.isSome = true := by
  obtain ⟨-, -, -, k4, -, r, k6⟩ := k
  refine ⟨r, k6, ?_⟩
  have e2 : nGates R.2 = nGates l + nGates r := by rw [k6]; simp [nGates, List.countP_append]
  have e3 : R.2.length = l.length + r.length := by rw [k6, List.length_append]
  exact List.countP_eq_length.mp (show nGates r = r.length by omega)
theorem tLoop_pre {l : NT} {inp : Nat → Nat} {ic : Nat} (h : NI l inp ic) : ∀ k, k ≤ l.length → ∀ S, tLoop l (tInit inp ic) k = some S → ∃ r, S.1 = List.replicate (1 + (ic + ic)) none ++ r ∧ ∀ g ∈ r, g.isSome = true := by
  intro k
  induction k with
  | zero => intro _ S e; cases e; exact ⟨[], by simp [tInit], by simp⟩
  | succ k ih =>
    intro hk S e
    have e : tStep l (tLoop l (tInit inp ic) k) k = some S := e
    cases e2 : tLoop l (tInit inp ic) k with
    | none => rw [e2] at e; cases e
    | some S2 =>
      rw [e2] at e
      obtain ⟨r, h1, h2⟩ := ih (by omega) S2 e2
      cases hg : nAt l k with
      | none =>
        simp only [tStep, hg] at e
        cases e
        exact ⟨r, h1, h2⟩
      | some q =>
        obtain ⟨a, b⟩ := q
        simp only [tStep, hg, Option.map_eq_some_iff] at e
        obtain ⟨R, hR, rfl⟩ := e
        obtain ⟨t1, t2, t3, t4⟩ := tLoop_ok h k (by omega) S2 e2
        have hq := h.1.2.2 k a b hg
        have ha := t4 (a / 2) (by omega) (Or.inl (by omega))
        have hb := t4 (b / 2) (by omega) (Or.inl (by omega))
        obtain ⟨-, -, -, -, -, k6, -⟩ := G_ok t1 t2 (litN_lt ha.1) (litN_lt hb.1) ha.2 hb.2
        obtain ⟨r2, g1, g2⟩ := kept_some k6
        refine ⟨r ++ r2, ?_, fun g hg => ?_⟩
        · show R.1 = _
          rw [(tGate_s hR).2.2, g1, h1, List.append_assoc]
        · rcases List.mem_append.mp hg with z | z
          · exact h2 g z
          · exact g2 g z
theorem setT_leaf {l : NT} {inp : Nat → Nat} {ic j : Nat} {S : NT × (Nat → Nat) × (Nat → Nat)} {b t : Nat → Int32} {w : Nat → Int64} (h : NI l inp ic) (hS : tBuild l inp ic = some S) (hj : j < 64) (hw : w 0 = 0) : ∀ k, k < S.1.length → nAt S.1 k = none → ln j (setT b t ic w ic k) = setTB (nz b) (nz t) ic ic k := by
  intro k hk hz
  have h1 := twin_leaf (l := l) (tLoop_pre h l.length (Nat.le_refl _) S hS) hk hz
  by_cases e : k = 0
  · subst e; rw [setT_0, setTB_0, hw, ln_0]
  · rcases Nat.lt_or_ge (k - 1) ic with h2 | h2
    · have e2 : k = 1 + (k - 1) := by omega
      rw [e2, (setT_b ic (Nat.le_refl _) (k - 1) h2).1, (setTB_b ic (Nat.le_refl _) (k - 1) h2).1, ln_wob hj]
      rfl
    · have e2 : k = 1 + (ic + (k - 1 - ic)) := by omega
      rw [e2, (setT_b ic (Nat.le_refl _) (k - 1 - ic) (by omega)).2, (setTB_b ic (Nat.le_refl _) (k - 1 - ic) (by omega)).2, ln_wob hj]
      rfl
