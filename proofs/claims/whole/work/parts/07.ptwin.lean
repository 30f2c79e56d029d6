/-! the twin, as a pure thing: built gate by gate; none when it would have too many gates -/
def kept (M : Nat) (l : NT) (R : Option Nat × NT) : Prop := nOK R.2 ∧ vO R.2.length R.1 ∧ nGates R.2 ≤ M ∧ nGates R.2 + l.length = nGates l + R.2.length ∧ l.length ≤ R.2.length ∧ ∃ r, R.2 = l ++ r
theorem kept_and {M : Nat} {l : NT} {x y : Option Nat} (hok : nOK l) (hx : vO l.length x) (hy : vO l.length y) (hM : nGates l ≤ M) : kept M l (nAnd M l x y) := by
  obtain ⟨h1, h2, h3, ⟨r, h4, h5, h6⟩, h7⟩ := nAnd_keeps (M := M) hok hx hy hM
  refine ⟨h1, h2, h3, ?_, h7, r, h4⟩
  have := congrArg List.length h4
  rw [List.length_append] at this
  omega
theorem kept_or {M : Nat} {l : NT} {x y : Option Nat} (hok : nOK l) (hx : vO l.length x) (hy : vO l.length y) (hM : nGates l ≤ M) : kept M l (nOr M l x y) := by
  obtain ⟨h1, h2, h3, h4, h5, h6⟩ := kept_and (M := M) hok (vO_not hx) (vO_not hy) hM
  exact ⟨h1, vO_not h2, h3, h4, h5, h6⟩
theorem kept_tr {M : Nat} {l : NT} {R S : Option Nat × NT} (h : kept M l R) (k : kept M R.2 S) : kept M l S := by
  obtain ⟨-, -, -, h4, h5, r, h6⟩ := h
  obtain ⟨k1, k2, k3, k4, k5, q, k6⟩ := k
  exact ⟨k1, k2, k3, by omega, by omega, r ++ q, by rw [k6, h6, List.append_assoc]⟩
def G1 (t : NT) (va vb _ta _tb : Nat) : Option Nat × NT := nAnd 1500 t (some va) (some vb)
def G2 (t : NT) (va vb ta tb : Nat) : Option Nat × NT := nAnd 1500 (G1 t va vb ta tb).2 (some ta) (some vb)
def G3 (t : NT) (va vb ta tb : Nat) : Option Nat × NT := nAnd 1500 (G2 t va vb ta tb).2 (some tb) (some va)
def G4 (t : NT) (va vb ta tb : Nat) : Option Nat × NT := nOr 1500 (G3 t va vb ta tb).2 (G2 t va vb ta tb).1 (G3 t va vb ta tb).1
def G5 (t : NT) (va vb ta tb : Nat) : Option Nat × NT := nAnd 1500 (G4 t va vb ta tb).2 (some ta) (some tb)
def G6 (t : NT) (va vb ta tb : Nat) : Option Nat × NT := nOr 1500 (G5 t va vb ta tb).2 (G4 t va vb ta tb).1 (G5 t va vb ta tb).1
def tGate (t : NT) (va vb ta tb : Nat) : Option (NT × Nat × Nat) := match (G1 t va vb ta tb).1, (G6 t va vb ta tb).1 with
  | some v, some u => some ((G6 t va vb ta tb).2, v, u)
  | _, _ => none
theorem vO_some {n k : Nat} (h : k < 2 * n) : vO n (some k) := fun j hj => by cases hj; exact h
theorem G_ok {t : NT} {va vb ta tb : Nat} (tok : nOK t) (tgM : nGates t ≤ 1500) (h1 : va < 2 * t.length) (h2 : vb < 2 * t.length) (h3 : ta < 2 * t.length) (h4 : tb < 2 * t.length) :
    kept 1500 t (G1 t va vb ta tb) ∧ kept 1500 t (G2 t va vb ta tb) ∧ kept 1500 t (G3 t va vb ta tb) ∧ kept 1500 t (G4 t va vb ta tb) ∧ kept 1500 t (G5 t va vb ta tb) ∧ kept 1500 t (G6 t va vb ta tb) ∧
    vO (G3 t va vb ta tb).2.length (G2 t va vb ta tb).1 ∧ vO (G5 t va vb ta tb).2.length (G4 t va vb ta tb).1 ∧ vO (G6 t va vb ta tb).2.length (G1 t va vb ta tb).1 := by
  have k1 : kept 1500 t (G1 t va vb ta tb) := kept_and tok (vO_some h1) (vO_some h2) tgM
  have l1 := k1.2.2.2.2.1
  have k2' : kept 1500 (G1 t va vb ta tb).2 (G2 t va vb ta tb) := kept_and k1.1 (vO_some (by omega)) (vO_some (by omega)) k1.2.2.1
  have k2 := kept_tr k1 k2'
  have l2 := k2'.2.2.2.2.1
  have k3' : kept 1500 (G2 t va vb ta tb).2 (G3 t va vb ta tb) := kept_and k2.1 (vO_some (by omega)) (vO_some (by omega)) k2.2.2.1
  have k3 := kept_tr k2 k3'
  have l3 := k3'.2.2.2.2.1
  have v2 := vO_mono k2.2.1 l3
  have k4' : kept 1500 (G3 t va vb ta tb).2 (G4 t va vb ta tb) := kept_or k3.1 v2 k3.2.1 k3.2.2.1
  have k4 := kept_tr k3 k4'
  have l4 := k4'.2.2.2.2.1
  have k5' : kept 1500 (G4 t va vb ta tb).2 (G5 t va vb ta tb) := kept_and k4.1 (vO_some (by omega)) (vO_some (by omega)) k4.2.2.1
  have k5 := kept_tr k4 k5'
  have l5 := k5'.2.2.2.2.1
  have v4 := vO_mono k4.2.1 l5
  have k6' : kept 1500 (G5 t va vb ta tb).2 (G6 t va vb ta tb) := kept_or k5.1 v4 k5.2.1 k5.2.2.1
  have k6 := kept_tr k5 k6'
  have l6 := k6'.2.2.2.2.1
  exact ⟨k1, k2, k3, k4, k5, k6, v2, v4, vO_mono k1.2.1 (by omega)⟩
theorem eO_m1 {o : Option Nat} {n : Nat} (hn : n < 100000) (h : vO n o) : eO o = -1 ↔ o = none := by
  cases o with
  | none => simp [eO]
  | some k =>
    have := h k rfl
    constructor
    · intro z; exact absurd z (n_m1 (by omega))
    · intro z; cases z
theorem tGate_b (t : NT) (va vb ta tb : Nat) : (tGate t va vb ta tb).isSome = true ↔ ((G1 t va vb ta tb).1 ≠ none ∧ (G6 t va vb ta tb).1 ≠ none) := by
  unfold tGate
  cases (G1 t va vb ta tb).1 <;> cases (G6 t va vb ta tb).1 <;> simp
theorem tGate_s {t : NT} {va vb ta tb : Nat} {R : NT × Nat × Nat} (h : tGate t va vb ta tb = some R) : (G1 t va vb ta tb).1 = some R.2.1 ∧ (G6 t va vb ta tb).1 = some R.2.2 ∧ R.1 = (G6 t va vb ta tb).2 := by
  unfold tGate at h
  cases h1 : (G1 t va vb ta tb).1 with
  | none => rw [h1] at h; simp at h
  | some v =>
    cases h6 : (G6 t va vb ta tb).1 with
    | none => rw [h1, h6] at h; simp at h
    | some u =>
      rw [h1, h6] at h
      simp at h
      subst h
      exact ⟨rfl, rfl, rfl⟩
def updN (f : Nat → Nat) (k x : Nat) : Nat → Nat := fun j => if j = k then x else f j
theorem updN_s {f : Nat → Nat} {k x : Nat} : updN f k x k = x := by simp [updN]
theorem updN_n {f : Nat → Nat} {k x j : Nat} (h : j ≠ k) : updN f k x j = f j := by simp [updN, h]
def litN (V : Nat → Nat) (k : Nat) : Nat := if k % 2 = 0 then V (k / 2) else nNeg (V (k / 2))
theorem litN_lt {V : Nat → Nat} {k n : Nat} (h : V (k / 2) < 2 * n) : litN V k < 2 * n := by
  unfold litN; split
  · exact h
  · exact nNeg_lt h
theorem vit_N {vl : Nat → Int32} {V : Nat → Nat} {k : Nat} (h : vl (k / 2) = nI (V (k / 2))) (hb : V (k / 2) < 2 ^ 31) : vit vl k = nI (litN V k) := by
  unfold vit litN
  rw [h]
  split
  · rfl
  · exact notI_nI hb
def setN (inp g f : Nat → Nat) : Nat → (Nat → Nat)
  | 0 => f
  | i + 1 => updN (setN inp g f i) (inp i) (g i)
def setI (inp g : Nat → Nat) (f : Nat → Int32) : Nat → (Nat → Int32)
  | 0 => f
  | i + 1 => upd (setI inp g f i) (inp i) (nI (g i))
def tStep (l : NT) (S : Option (NT × (Nat → Nat) × (Nat → Nat))) (k : Nat) : Option (NT × (Nat → Nat) × (Nat → Nat)) := match S with
  | none => none
  | some S => match nAt l k with
    | none => some S
    | some q => (tGate S.1 (litN S.2.1 q.1) (litN S.2.1 q.2) (S.2.2 (q.1 / 2)) (S.2.2 (q.2 / 2))).map (fun R => (R.1, updN S.2.1 k R.2.1, updN S.2.2 k R.2.2))
def tLoop (l : NT) (S0 : NT × (Nat → Nat) × (Nat → Nat)) : Nat → Option (NT × (Nat → Nat) × (Nat → Nat))
  | 0 => some S0
  | k + 1 => tStep l (tLoop l S0 k) k
def tInit (inp : Nat → Nat) (ic : Nat) : NT × (Nat → Nat) × (Nat → Nat) := (List.replicate (1 + (ic + ic)) none, setN inp (fun i => 2 * (1 + i)) (fun _ => 0) ic, setN inp (fun i => 2 * (1 + (ic + i))) (fun _ => 0) ic)
def tBuild (l : NT) (inp : Nat → Nat) (ic : Nat) : Option (NT × (Nat → Nat) × (Nat → Nat)) := tLoop l (tInit inp ic) l.length
/-- a net with its inputs: what class and reference have in common -/
def NI (l : NT) (inp : Nat → Nat) (ic : Nat) : Prop := nOK l ∧ nGates l + 1 + ic = l.length ∧ nGates l ≤ 400 ∧ ic ≤ 64 ∧ (∀ i, i < ic → inp i < l.length ∧ 0 < inp i ∧ nAt l (inp i) = none) ∧ (∀ i j, i < ic → j < ic → inp i = inp j → i = j) ∧ (∀ k, k < l.length → nAt l k = none → k = 0 ∨ ∃ i, i < ic ∧ inp i = k)
theorem setN_in {inp g f : Nat → Nat} {ic : Nat} (hinj : ∀ i j, i < ic → j < ic → inp i = inp j → i = j) : ∀ n, n ≤ ic → ∀ i, i < n → setN inp g f n (inp i) = g i := by
  intro n
  induction n with
  | zero => intro _ i hi; omega
  | succ n ih =>
    intro hn i hi
    show updN (setN inp g f n) (inp n) (g n) (inp i) = g i
    by_cases e : i = n
    · subst e; exact updN_s
    · rw [updN_n (fun z => e (hinj i n (by omega) (by omega) z))]
      exact ih (by omega) i (by omega)
theorem setN_out {inp g f : Nat → Nat} {n k : Nat} (h : ∀ i, i < n → inp i ≠ k) : setN inp g f n k = f k := by
  induction n with
  | zero => rfl
  | succ n ih =>
    show updN (setN inp g f n) (inp n) (g n) k = f k
    rw [updN_n (fun z => h n (by omega) z.symm)]
    exact ih (fun i hi => h i (by omega))
theorem setI_in {inp g : Nat → Nat} {f : Nat → Int32} {ic : Nat} (hinj : ∀ i j, i < ic → j < ic → inp i = inp j → i = j) : ∀ n, n ≤ ic → ∀ i, i < n → setI inp g f n (inp i) = nI (g i) := by
  intro n
  induction n with
  | zero => intro _ i hi; omega
  | succ n ih =>
    intro hn i hi
    show upd (setI inp g f n) (inp n) (nI (g n)) (inp i) = nI (g i)
    by_cases e : i = n
    · subst e; exact pk_us
    · rw [pk_un (fun z => e (hinj i n (by omega) (by omega) z))]
      exact ih (by omega) i (by omega)
theorem setI_out {inp g : Nat → Nat} {f : Nat → Int32} {n k : Nat} (h : ∀ i, i < n → inp i ≠ k) : setI inp g f n k = f k := by
  induction n with
  | zero => rfl
  | succ n ih =>
    show upd (setI inp g f n) (inp n) (nI (g n)) k = f k
    rw [pk_un (fun z => h n (by omega) z.symm)]
    exact ih (fun i hi => h i (by omega))
theorem nGates_rep (n : Nat) : nGates (List.replicate n none) = 0 := by
  induction n with
  | zero => rfl
  | succ n ih => rw [List.replicate_succ', nGates_none, ih]
theorem nAt_rep (n k : Nat) : nAt (List.replicate n none) k = none := by
  unfold nAt
  rw [List.getD_eq_getElem?_getD, List.getElem?_replicate]
  split <;> rfl
theorem nOK_rep (n : Nat) (h : 0 < n) : nOK (List.replicate n none) := ⟨by rw [List.length_replicate]; exact h, nAt_rep n 0, fun k a b hk => by rw [nAt_rep] at hk; cases hk⟩
/-- what holds of the twin while it is built -/
def tOK (l : NT) (ic k : Nat) (S : NT × (Nat → Nat) × (Nat → Nat)) : Prop := nOK S.1 ∧ nGates S.1 ≤ 1500 ∧ nGates S.1 + 1 + (ic + ic) = S.1.length ∧ ∀ j, j < l.length → (j < k ∨ nAt l j = none) → S.2.1 j < 2 * S.1.length ∧ S.2.2 j < 2 * S.1.length
theorem tInit_ok {l : NT} {inp : Nat → Nat} {ic : Nat} (h : NI l inp ic) : tOK l ic 0 (tInit inp ic) := by
  obtain ⟨-, -, -, -, hin, hinj, hcov⟩ := h
  refine ⟨nOK_rep _ (by omega), by show nGates (List.replicate (1 + (ic + ic)) none) ≤ 1500; rw [nGates_rep]; exact Nat.zero_le _, by show nGates (List.replicate (1 + (ic + ic)) none) + 1 + (ic + ic) = (List.replicate (1 + (ic + ic)) none).length; rw [nGates_rep, List.length_replicate, Nat.zero_add], fun j hj hz => ?_⟩
  have hz : nAt l j = none := hz.elim (fun z => absurd z (Nat.not_lt_zero j)) id
  show setN inp (fun i => 2 * (1 + i)) (fun _ => 0) ic j < 2 * (List.replicate (1 + (ic + ic)) (none : Option (Nat × Nat))).length ∧ setN inp (fun i => 2 * (1 + (ic + i))) (fun _ => 0) ic j < 2 * (List.replicate (1 + (ic + ic)) (none : Option (Nat × Nat))).length
  rw [List.length_replicate]
  rcases hcov j hj hz with rfl | ⟨i, hi, rfl⟩
  · have h0 : ∀ i, i < ic → inp i ≠ 0 := fun i hi z => by have := (hin i hi).2.1; omega
    rw [setN_out h0, setN_out h0]; omega
  · rw [setN_in hinj ic (Nat.le_refl _) i hi, setN_in hinj ic (Nat.le_refl _) i hi]; omega
theorem tStep_ok {l : NT} {ic k : Nat} {S S' : NT × (Nat → Nat) × (Nat → Nat)} (hok : nOK l) (hk : k < l.length) (h : tOK l ic k S) (e : tStep l (some S) k = some S') : tOK l ic (k + 1) S' := by
  obtain ⟨h1, h2, h3, h4⟩ := h
  cases hg : nAt l k with
  | none =>
    simp only [tStep, hg] at e
    cases e
    refine ⟨h1, h2, h3, fun j hj hz => h4 j hj ?_⟩
    by_cases ej : j = k
    · subst ej; exact Or.inr hg
    · exact hz.imp (fun z => by omega) id
  | some q =>
    simp only [tStep, hg, Option.map_eq_some_iff] at e
    obtain ⟨R, hR, rfl⟩ := e
    obtain ⟨a, b⟩ := q
    have hR : tGate S.1 (litN S.2.1 a) (litN S.2.1 b) (S.2.2 (a / 2)) (S.2.2 (b / 2)) = some R := hR
    have hq := hok.2.2 k a b hg
    have ha := h4 (a / 2) (by omega) (Or.inl (by omega))
    have hb := h4 (b / 2) (by omega) (Or.inl (by omega))
    obtain ⟨k1, -, -, -, -, k6, -, -, v1⟩ := G_ok h1 h2 (litN_lt ha.1) (litN_lt hb.1) ha.2 hb.2
    obtain ⟨e1, e6, eR⟩ := tGate_s hR
    obtain ⟨c1, c2, c3, c4, c5, -⟩ := k6
    refine ⟨by show nOK R.1; rw [eR]; exact c1, by show nGates R.1 ≤ 1500; rw [eR]; exact c3, by show nGates R.1 + 1 + (ic + ic) = R.1.length; rw [eR]; omega, fun j hj hz => ?_⟩
    show updN S.2.1 k R.2.1 j < 2 * R.1.length ∧ updN S.2.2 k R.2.2 j < 2 * R.1.length
    rw [eR]
    by_cases ej : j = k
    · subst ej
      rw [updN_s, updN_s]
      exact ⟨v1 _ e1, c2 _ e6⟩
    · rw [updN_n ej, updN_n ej]
      have h5 := h4 j hj (hz.imp (fun z => by omega) id)
      omega
theorem tLoop_ok {l : NT} {inp : Nat → Nat} {ic : Nat} (h : NI l inp ic) : ∀ k, k ≤ l.length → ∀ S, tLoop l (tInit inp ic) k = some S → tOK l ic k S := by
  intro k
  induction k with
  | zero => intro _ S e; cases e; exact tInit_ok h
  | succ k ih =>
    intro hk S e
    have e : tStep l (tLoop l (tInit inp ic) k) k = some S := e
    cases e2 : tLoop l (tInit inp ic) k with
    | none => rw [e2] at e; cases e
    | some S2 => rw [e2] at e; exact tStep_ok h.1 (by omega) (ih (by omega) S2 e2) e
theorem tLoop_none {l : NT} {S0 : NT × (Nat → Nat) × (Nat → Nat)} {k : Nat} (h : tLoop l S0 k = none) : ∀ n, k ≤ n → tLoop l S0 n = none := by
  intro n hn
  induction n with
  | zero => have : k = 0 := by omega
            subst this; exact h
  | succ n ih =>
    by_cases e : k = n + 1
    · subst e; exact h
    · show tStep l (tLoop l S0 n) n = none
      rw [ih (by omega)]
      rfl
