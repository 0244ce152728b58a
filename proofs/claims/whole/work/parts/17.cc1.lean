-- THE CONSTRUCTORS (laid by wip/gen/cc.py): rests by 24
/-- the rest of a division by 24, the floor's -/
def ap_r (x : Int32) : Nat := (x.toInt % 24).toNat
theorem ap_r_lt (x : Int32) : ap_r x < 24 := by
  unfold ap_r
  omega
theorem ap_rem (x : Int32) : ∃ i : Nat, i < 47 ∧ x - x / nI 24 * nI 24 = Int32.ofInt ((i : Int) - 23) ∧ ap_r x = (if 23 ≤ i then i - 23 else i + 1) ∧ (0 ≤ x → 23 ≤ i) ∧ (¬ 0 ≤ x → i ≤ 23) := by
  have e24 : (nI 24).toInt = 24 := by decide
  have hd : (x / nI 24).toInt = x.toInt.tdiv 24 := by
    rw [Int32.toInt_div_of_ne_right _ _ (by decide), e24]
  have h1 := Int32.toInt_lt x
  have h2 := Int32.le_toInt x
  have h3 := Int.tmod_add_tdiv_mul x.toInt 24
  have h4 := Int.tmod_lt_of_pos x.toInt (show (0 : Int) < 24 by decide)
  have h5 := Int.lt_tmod_of_pos x.toInt (show (0 : Int) < 24 by decide)
  have h6 : x.toInt % 24 = x.toInt.tmod 24 ∨ x.toInt % 24 = x.toInt.tmod 24 + 24 := by omega
  have h7 : 0 ≤ x.toInt.tmod 24 → x.toInt % 24 = x.toInt.tmod 24 := by omega
  have h8 : x.toInt.tmod 24 < 0 → x.toInt % 24 = x.toInt.tmod 24 + 24 := by omega
  have h9 : 0 ≤ x.toInt → 0 ≤ x.toInt.tmod 24 := fun h => Int.tmod_nonneg 24 h
  have h10 : x.toInt ≤ 0 → x.toInt.tmod 24 ≤ 0 := fun h => by
    have e := Int.neg_tmod x.toInt 24
    have e2 := Int.tmod_nonneg (a := -x.toInt) 24 (by omega)
    rw [e] at e2
    omega
  generalize x.toInt.tmod 24 = r at *
  generalize x.toInt.tdiv 24 = t at *
  have hm : (x / nI 24 * nI 24).toInt = t * 24 := by
    rw [Int32.toInt_mul, hd, e24]
    exact Int.bmod_eq_of_le_mul_two (by omega) (by omega)
  have hs : (x - x / nI 24 * nI 24).toInt = r := by
    rw [Int32.toInt_sub, hm, Int.bmod_eq_of_le_mul_two (by omega) (by omega)]
    omega
  have hx0 : 0 ≤ x ↔ 0 ≤ x.toInt := Int32.le_iff_toInt_le
  refine ⟨(r + 23).toNat, by omega, ?_, ?_, fun h => ?_, fun h => ?_⟩
  · rw [← Int32.ofInt_toInt (x - x / nI 24 * nI 24), hs]
    congr 1
    omega
  · unfold ap_r
    split <;> omega
  · have := h9 (hx0.mp h)
    omega
  · have := h10 (by rcases Int.lt_or_le x.toInt 0 with h8 | h8; exact Int.le_of_lt h8; exact absurd (hx0.mpr h8) h)
    omega
theorem ap_xs (x : Int32) : 0 ≤ x ^^^ nI 24 ↔ 0 ≤ x := by
  have key : ∀ y : Int32, 0 ≤ y ↔ y.toBitVec.msb = false := fun y => by
    rw [Int32.le_iff_toInt_le, BitVec.msb_eq_toInt]
    show (0 : Int) ≤ y.toBitVec.toInt ↔ _
    rw [decide_eq_false_iff_not]
    omega
  have e : (nI 24).toBitVec.msb = false := by decide
  rw [key, key, Int32.toBitVec_xor, BitVec.msb_xor, e, Bool.xor_false]
theorem ap_rem_f : ∀ i : Fin 47, (23 ≤ i.val → Int32.ofInt ((i.val : Int) - 23) = nI (i.val - 23)) ∧ (¬ 23 ≤ i.val → Int32.ofInt ((i.val : Int) - 23) + nI 24 = nI (i.val + 1)) ∧ ((0 ≤ Int32.ofInt ((i.val : Int) - 23)) ↔ 23 ≤ i.val) ∧ (Int32.ofInt ((i.val : Int) - 23) = 0 ↔ i.val = 23) := by decide +kernel
