/-! nets as lists: none for what is no gate, some (a, b) for a gate of the literals a < b; NONE is none -/
abbrev NT : Type := List (Option (Nat × Nat))
def eO (o : Option Nat) : Int32 := match o with
  | none => -1
  | some k => nI k
def gL (g : Option (Nat × Nat)) : Int32 := match g with
  | none => -1
  | some q => nI q.1
def gR (g : Option (Nat × Nat)) : Int32 := match g with
  | none => -1
  | some q => nI q.2
def nAt (l : NT) (k : Nat) : Option (Nat × Nat) := l.getD k none
def nGates (l : NT) : Nat := l.countP Option.isSome
def nNeg (k : Nat) : Nat := if k % 2 = 0 then k + 1 else k - 1
def nNot (o : Option Nat) : Option Nat := o.map nNeg
def nFind (l : NT) (a b : Nat) : Option Nat := l.findIdx? (fun g => g == some (a, b))
def nGate (M : Nat) (l : NT) (a b : Nat) : Option Nat × NT := match nFind l a b with
  | some k => (some (2 * k), l)
  | none => if nGates l = M then (none, l) else (some (2 * l.length), l ++ [some (a, b)])
def nAnd (M : Nat) (l : NT) (x y : Option Nat) : Option Nat × NT := match x, y with
  | some a, some b => if a = 0 ∨ b = 0 ∨ a = nNeg b then (some 0, l) else if b = 1 ∨ a = b then (some a, l) else if a = 1 then (some b, l) else nGate M l (min a b) (max a b)
  | _, _ => (none, l)
def nOr (M : Nat) (l : NT) (x y : Option Nat) : Option Nat × NT := (nNot (nAnd M l (nNot x) (nNot y)).1, (nAnd M l (nNot x) (nNot y)).2)
/-- gates stand behind the nodes of their literals, the lesser literal first; node 0 is no gate -/
def nOK (l : NT) : Prop := 0 < l.length ∧ nAt l 0 = none ∧ ∀ (k a b : Nat), nAt l k = some (a, b) → 2 ≤ a ∧ a < b ∧ b < 2 * k
/-- two rows hold a net -/
def rpN (l : NT) (lf of : Nat → Int32) : Prop := ∀ k, k < l.length → lf k = gL (nAt l k) ∧ of k = gR (nAt l k)
def dO (n : Nat) (x : Int32) : Option Nat := if 0 ≤ x ∧ x < nI (2 * n) then some x.toNatClampNeg else none
theorem nAt_none {l : NT} {k : Nat} (h : l.length ≤ k) : nAt l k = none := by
  simp [nAt, List.getD_eq_getElem?_getD, List.getElem?_eq_none h]
theorem nAt_app {l r : NT} {k : Nat} (h : k < l.length) : nAt (l ++ r) k = nAt l k := by
  simp [nAt, List.getD_eq_getElem?_getD, List.getElem?_append_left h]
theorem nAt_last {l : NT} {g : Option (Nat × Nat)} : nAt (l ++ [g]) l.length = g := by
  simp [nAt, List.getD_eq_getElem?_getD]
theorem nAt_snoc {l : NT} {g : Option (Nat × Nat)} (k : Nat) : nAt (l ++ [g]) k = if k = l.length then g else nAt l k := by
  by_cases h : k = l.length
  · subst h; rw [if_pos rfl, nAt_last]
  · rw [if_neg h]
    by_cases h2 : k < l.length
    · exact nAt_app h2
    · rw [nAt_none (by simp; omega), nAt_none (by omega)]
theorem nAt_lt {l : NT} {k : Nat} {q : Nat × Nat} (h : nAt l k = some q) : k < l.length := by
  rcases Nat.lt_or_ge k l.length with h1 | h1
  · exact h1
  · rw [nAt_none h1] at h; cases h
theorem nFind_some {l : NT} {a b k : Nat} (hk : nAt l k = some (a, b)) (hno : ∀ j, j < k → ¬ nAt l j = some (a, b)) : nFind l a b = some k := by
  have hl := nAt_lt hk
  rw [nFind, List.findIdx?_eq_some_iff_getElem]
  refine ⟨hl, ?_, fun j hj => ?_⟩
  · have : l[k] = some (a, b) := by simpa [nAt, List.getD_eq_getElem?_getD, hl] using hk
    simp [this]
  · have hj2 : j < l.length := by omega
    have h1 := hno j hj
    have : ¬ l[j] = some (a, b) := by simpa [nAt, List.getD_eq_getElem?_getD, hj2] using h1
    simp [this]
theorem nFind_none {l : NT} {a b : Nat} (hno : ∀ j, j < l.length → ¬ nAt l j = some (a, b)) : nFind l a b = none := by
  rw [nFind, List.findIdx?_eq_none_iff]
  intro x hx
  obtain ⟨j, hj, rfl⟩ := List.mem_iff_getElem.mp hx
  have h1 := hno j hj
  have : ¬ l[j] = some (a, b) := by simpa [nAt, List.getD_eq_getElem?_getD, hj] using h1
  simp [this]
theorem nFind_spec {l : NT} {a b k : Nat} (h : nFind l a b = some k) : nAt l k = some (a, b) ∧ k < l.length := by
  rw [nFind, List.findIdx?_eq_some_iff_getElem] at h
  obtain ⟨hl, h1, -⟩ := h
  refine ⟨?_, hl⟩
  simp [nAt, List.getD_eq_getElem?_getD, hl]
  simpa using h1
theorem nNeg_lt {k n : Nat} (h : k < 2 * n) : nNeg k < 2 * n := by unfold nNeg; split <;> omega
theorem nNeg_neg (k : Nat) : nNeg (nNeg k) = k := by unfold nNeg; split <;> split <;> omega
theorem nNeg_div (k : Nat) : nNeg k / 2 = k / 2 := by unfold nNeg; split <;> omega
theorem nNeg_iff (a b : Nat) : a = nNeg b ↔ (a / 2 = b / 2 ∧ a ≠ b) := by
  unfold nNeg; split <;> omega
theorem nGates_snoc (l : NT) (a b : Nat) : nGates (l ++ [some (a, b)]) = nGates l + 1 := by simp [nGates, List.countP_append]
theorem nGates_none (l : NT) : nGates (l ++ [none]) = nGates l := by simp [nGates, List.countP_append]
theorem nGates_le (l : NT) : nGates l ≤ l.length := List.countP_le_length
/-- the gate's making: nothing is made, or one gate -/
theorem nGate_cases (M : Nat) (l : NT) (a b : Nat) : (∃ k, nGate M l a b = (some (2 * k), l) ∧ nAt l k = some (a, b) ∧ k < l.length) ∨ (nGate M l a b = (none, l) ∧ nGates l = M) ∨ (nGate M l a b = (some (2 * l.length), l ++ [some (a, b)]) ∧ ¬ nGates l = M) := by
  unfold nGate
  cases h : nFind l a b with
  | some k => exact Or.inl ⟨k, rfl, nFind_spec h⟩
  | none =>
    by_cases h2 : nGates l = M
    · exact Or.inr (Or.inl ⟨by simp [h2], h2⟩)
    · exact Or.inr (Or.inr ⟨by simp [h2], h2⟩)
/-- AND: what it answers and what it makes -/
theorem nAnd_cases (M : Nat) (l : NT) (x y : Option Nat) : (∃ k, nAnd M l x y = (some k, l) ∧ (k = 0 ∨ x = some k ∨ y = some k ∨ k < 2 * l.length)) ∨ (nAnd M l x y = (none, l) ∧ (x = none ∨ y = none ∨ nGates l = M)) ∨ (∃ a b, nAnd M l x y = (some (2 * l.length), l ++ [some (a, b)]) ∧ ¬ nGates l = M ∧ 2 ≤ a ∧ a < b ∧ ((x = some a ∧ y = some b) ∨ (x = some b ∧ y = some a))) := by
  cases x with
  | none => exact Or.inr (Or.inl ⟨rfl, Or.inl rfl⟩)
  | some a =>
    cases y with
    | none => exact Or.inr (Or.inl ⟨rfl, Or.inr (Or.inl rfl)⟩)
    | some b =>
      simp only [nAnd]
      split
      · exact Or.inl ⟨0, rfl, Or.inl rfl⟩
      · rename_i h1
        split
        · exact Or.inl ⟨a, rfl, Or.inr (Or.inl rfl)⟩
        · rename_i h2
          split
          · exact Or.inl ⟨b, rfl, Or.inr (Or.inr (Or.inl rfl))⟩
          · rename_i h3
            rcases nGate_cases M l (min a b) (max a b) with ⟨k, e, -, hk⟩ | ⟨e, hM⟩ | ⟨e, hM⟩
            · exact Or.inl ⟨2 * k, e, Or.inr (Or.inr (Or.inr (by omega)))⟩
            · exact Or.inr (Or.inl ⟨e, Or.inr (Or.inr hM)⟩)
            · refine Or.inr (Or.inr ⟨min a b, max a b, e, hM, by omega, by omega, ?_⟩)
              rcases Nat.lt_or_ge a b with q | q
              · exact Or.inl ⟨by rw [Nat.min_eq_left (by omega)], by rw [Nat.max_eq_right (by omega)]⟩
              · exact Or.inr ⟨by rw [Nat.max_eq_left (by omega)], by rw [Nat.min_eq_right (by omega)]⟩
/-- a literal that is there, or none -/
def vO (n : Nat) (o : Option Nat) : Prop := ∀ k, o = some k → k < 2 * n
theorem vO_none {n : Nat} : vO n none := fun _ h => by cases h
theorem vO_mono {n m : Nat} {o : Option Nat} (h : vO n o) (hm : n ≤ m) : vO m o := fun k hk => by have := h k hk; omega
theorem vO_not {n : Nat} {o : Option Nat} (h : vO n o) : vO n (nNot o) := by
  intro k hk
  cases o with
  | none => cases hk
  | some j => cases hk; exact nNeg_lt (h j rfl)
/-- what AND keeps: the net before is a beginning of the one behind; order, number of gates, valid literals -/
theorem nAnd_keeps {M : Nat} {l : NT} {x y : Option Nat} (hok : nOK l) (hx : vO l.length x) (hy : vO l.length y) (hM : nGates l ≤ M) :
    nOK (nAnd M l x y).2 ∧ vO (nAnd M l x y).2.length (nAnd M l x y).1 ∧ nGates (nAnd M l x y).2 ≤ M ∧ (∃ r, (nAnd M l x y).2 = l ++ r ∧ r.length ≤ 1 ∧ nGates (nAnd M l x y).2 = nGates l + r.length) ∧ l.length ≤ (nAnd M l x y).2.length := by
  rcases nAnd_cases M l x y with ⟨k, e, hk⟩ | ⟨e, -⟩ | ⟨a, b, e, hg, h2, hab, hxy⟩
  · rw [e]
    refine ⟨hok, fun j hj => ?_, hM, ⟨[], by simp, by simp, by simp⟩, Nat.le_refl _⟩
    cases hj
    rcases hk with h | h | h | h
    · have := hok.1; show k < 2 * l.length; omega
    · exact hx k h
    · exact hy k h
    · exact h
  · rw [e]
    exact ⟨hok, vO_none, hM, ⟨[], by simp, by simp, by simp⟩, Nat.le_refl _⟩
  · rw [e]
    have hb : b < 2 * l.length := by
      rcases hxy with ⟨-, h⟩ | ⟨h, -⟩
      · exact hy b h
      · exact hx b h
    refine ⟨⟨by simp, ?_, ?_⟩, fun j hj => ?_, ?_, ⟨[some (a, b)], rfl, by simp, by simp [nGates_snoc]⟩, by simp⟩
    · rw [nAt_app hok.1]; exact hok.2.1
    · intro k a' b' hk
      rw [nAt_snoc] at hk
      split at hk
      · rename_i e2; subst e2; cases hk; exact ⟨h2, hab, hb⟩
      · exact hok.2.2 k a' b' hk
    · cases hj; simp
    · simp only [nGates_snoc]; omega
theorem nOr_keeps {M : Nat} {l : NT} {x y : Option Nat} (hok : nOK l) (hx : vO l.length x) (hy : vO l.length y) (hM : nGates l ≤ M) :
    nOK (nOr M l x y).2 ∧ vO (nOr M l x y).2.length (nOr M l x y).1 ∧ nGates (nOr M l x y).2 ≤ M ∧ (∃ r, (nOr M l x y).2 = l ++ r ∧ r.length ≤ 1 ∧ nGates (nOr M l x y).2 = nGates l + r.length) ∧ l.length ≤ (nOr M l x y).2.length := by
  obtain ⟨h1, h2, h3, h4, h5⟩ := nAnd_keeps (M := M) hok (vO_not hx) (vO_not hy) hM
  exact ⟨h1, vO_not h2, h3, h4, h5⟩
theorem eO_some (k : Nat) : eO (some k) = nI k := rfl
theorem eO_none : eO none = -1 := rfl
/-- an int as a literal of n nodes -/
theorem dO_cases {n : Nat} (hn : n < 100000) (x : Int32) : (¬ (0 ≤ x ∧ x < nI (2 * n)) ∧ dO n x = none) ∨ ∃ k, k < 2 * n ∧ x = nI k ∧ dO n x = some k ∧ (0 ≤ x ∧ x < nI (2 * n)) := by
  by_cases h : 0 ≤ x ∧ x < nI (2 * n)
  · right
    obtain ⟨j, hj, rfl⟩ := nI_of (Int32.not_lt.mpr h.1)
    have h2 := (nI_ltI hj (by omega)).mp h.2
    exact ⟨j, h2, rfl, by rw [dO, if_pos h, nI_clamp hj], h⟩
  · exact Or.inl ⟨h, by rw [dO, if_neg h]⟩
theorem dO_nI {n k : Nat} (hn : n < 100000) (hk : k < 2 * n) : dO n (nI k) = some k := by
  rw [dO, if_pos ⟨nI_pos' (by omega), (nI_ltI (by omega) (by omega)).mpr hk⟩, nI_clamp (by omega)]
theorem dO_m1 {n : Nat} : dO n (-1) = none := by
  rw [dO, if_neg]
  rintro ⟨h, -⟩
  exact absurd h (by decide)
theorem dO_eO {n : Nat} {o : Option Nat} (hn : n < 100000) (h : vO n o) : dO n (eO o) = o := by
  cases o with
  | none => exact dO_m1
  | some k => exact dO_nI hn (h k rfl)
theorem dO_v {n : Nat} (hn : n < 100000) (x : Int32) : vO n (dO n x) := by
  intro k hk
  rcases dO_cases hn x with ⟨-, e⟩ | ⟨j, hj, -, e, -⟩
  · rw [e] at hk; cases hk
  · rw [e] at hk; cases hk; exact hj
theorem rpN_snoc {l : NT} {lf of : Nat → Int32} (h : rpN l lf of) (g : Option (Nat × Nat)) : rpN (l ++ [g]) (upd lf l.length (gL g)) (upd of l.length (gR g)) := by
  intro k hk
  rw [nAt_snoc]
  by_cases e : k = l.length
  · subst e; rw [if_pos rfl, pk_us, pk_us]; exact ⟨rfl, rfl⟩
  · rw [if_neg e, pk_un e, pk_un e]
    simp at hk
    exact h k (by omega)
/-- the words of gates out of those of the others -/
def litW (w : Nat → Int64) (k : Nat) : Int64 := if k % 2 = 0 then w (k / 2) else w (k / 2) ^^^ (-1)
def sprd (l : NT) (w : Nat → Int64) : Nat → (Nat → Int64)
  | 0 => w
  | n + 1 => match nAt l n with
    | none => sprd l w n
    | some q => vp_updL (sprd l w n) n (litW (sprd l w n) q.1 &&& litW (sprd l w n) q.2)
