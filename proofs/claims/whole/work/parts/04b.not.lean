/-! the class's 'not' over ints -/
def notI (x : Int32) : Int32 := if x = (-1) then (-1) else x ^^^ nI 1
theorem nat_xor1 (k : Nat) : k ^^^ 1 = nNeg k := by
  have h1 : (k ^^^ 1) / 2 = k / 2 := by
    have := Nat.xor_div_two_pow (a := k) (b := 1) (n := 1)
    simpa using this
  have h2 : ((k ^^^ 1) % 2 = 1) ↔ ¬ ((k % 2 = 1) ↔ (1 % 2 = 1)) := Nat.xor_mod_two_eq_one
  unfold nNeg
  split <;> omega
theorem nI_xor1 (k : Nat) : nI k ^^^ nI 1 = nI (nNeg k) := by
  rw [← nat_xor1]
  apply Int32.toBitVec_inj.mp
  show BitVec.ofNat 32 k ^^^ BitVec.ofNat 32 1 = BitVec.ofNat 32 (k ^^^ 1)
  apply BitVec.eq_of_getLsbD_eq
  intro i hi
  simp [BitVec.getLsbD_ofNat, Nat.testBit_xor, hi]
theorem neg_xor1 {x : Int32} (h : x < 0) : x ^^^ nI 1 < 0 := by
  rw [Int32.lt_iff_toInt_lt] at h ⊢
  have h1 : x.toBitVec.msb = true := by
    rw [BitVec.msb_eq_toInt]
    exact decide_eq_true h
  have h2 : (x ^^^ nI 1).toBitVec.msb = true := by
    rw [Int32.toBitVec_xor, BitVec.msb_xor, h1]
    decide
  rw [BitVec.msb_eq_toInt] at h2
  exact of_decide_eq_true h2
theorem notI_nI {k : Nat} (hk : k < 2 ^ 31) : notI (nI k) = nI (nNeg k) := by
  rw [notI, if_neg (n_m1 hk), nI_xor1]
theorem notI_m1 : notI (-1) = -1 := rfl
theorem notI_eO {o : Option Nat} {n : Nat} (hn : n < 100000) (h : vO n o) : notI (eO o) = eO (nNot o) := by
  cases o with
  | none => rfl
  | some k => have := h k rfl; exact notI_nI (by omega)
theorem dO_not {n : Nat} (hn : n < 100000) (x : Int32) : dO n (notI x) = nNot (dO n x) := by
  rcases dO_cases hn x with ⟨h, e⟩ | ⟨k, hk, rfl, e, -⟩
  · rw [e]
    show dO n (notI x) = none
    by_cases hx : x = (-1)
    · subst hx; exact dO_m1
    · rw [notI, if_neg hx]
      by_cases h0 : x < 0
      · rw [dO, if_neg]
        rintro ⟨q, -⟩
        exact absurd (neg_xor1 h0) (Int32.not_lt.mpr q)
      · obtain ⟨k, hk, rfl⟩ := nI_of h0
        rw [nI_xor1, dO, if_neg]
        rintro ⟨-, q⟩
        have h3 : ¬ k < 2 * n := fun z => h ⟨nI_pos' hk, (nI_ltI hk (by omega)).mpr z⟩
        have h4 : nNeg k < 2 ^ 31 := by unfold nNeg; split <;> omega
        have h5 := (nI_ltI h4 (by omega)).mp q
        unfold nNeg at h5
        split at h5 <;> omega
  · rw [e, notI_nI (by omega), dO_nI hn (nNeg_lt hk)]
    rfl
