-- WORLDS: an AddressList (object, array); the class; the reference
abbrev cal (q a : Nat) (cA : ClassId) (n : Nat) (f : Nat → Int32) : va_W := [(q, .inr (0, [.ref a, .int (nI n)])), (a, .inl (cA, 64, .inl f))]
abbrev kal (cA : ClassId) : List (ClassId × FieldType) := [(cA, .int)]
abbrev at_A (dC : Nat → ClassId) (dI : Nat → Nat → Nat) (A : Nat → Prop) (q a : Nat) (cA : ClassId) (u : Nat × (Nat → Int32)) (t : State) : Prop := va_P (dC, dI) vwCl (cal q a cA u.1 u.2) t.heap ∧ va_K (dC, dI) vwCl (kal cA) t ∧ va_D A (cal q a cA u.1 u.2)
abbrev cx (q : Nat → Nat) (c : Nat → ClassId) (C : Nat) (L : Nat → List Int32) (f : Nat → Nat → Int32) (w d st : Nat → Int32) (t : Nat) (hi mi go : Int32) : va_W := [(q 0, .inr (1, [.int (nI C), .ref (q 1), .ref (q 2), .ref (q 3), .ref (q 4), .ref (q 9), .ref (q 10), .ref (q 11), .int (nI t), .int hi, .int mi, .int go])), (q 1, .inr (0, [.ref (q 5), .int (nI (L 1).length)])), (q 5, .inl (c 1, 64, .inl (f 1))), (q 2, .inr (0, [.ref (q 6), .int (nI (L 2).length)])), (q 6, .inl (c 2, 64, .inl (f 2))), (q 3, .inr (0, [.ref (q 7), .int (nI (L 3).length)])), (q 7, .inl (c 3, 64, .inl (f 3))), (q 4, .inr (0, [.ref (q 8), .int (nI (L 4).length)])), (q 8, .inl (c 4, 64, .inl (f 4))), (q 9, .inl (c 5, 64, .inl w)), (q 10, .inl (c 6, 64, .inl d)), (q 11, .inl (c 7, 64, .inl st))]
abbrev kx (c : Nat → ClassId) : List (ClassId × FieldType) := [(c 1, .int), (c 2, .int), (c 3, .int), (c 4, .int), (c 5, .int), (c 6, .boolean), (c 7, .int)]
def fx_ok (f : Nat → Nat → Int32) (L : Nat → List Int32) : Prop := ∀ k, 1 ≤ k → k ≤ 4 → ar_is (f k) (L k).reverse
abbrev at_X (dC : Nat → ClassId) (dI : Nat → Nat → Nat) (A : Nat → Prop) (q : Nat → Nat) (c : Nat → ClassId) (C : Nat) (u : ap_U) (t : State) : Prop := match u with
  | (L, w, d, st, tt, hi, mi, go) => ∃ f, fx_ok f L ∧ va_P (dC, dI) vwCl (cx q c C L f w d st tt hi mi go) t.heap ∧ va_K (dC, dI) vwCl (kx c) t ∧ va_D A (cx q c C L f w d st tt hi mi go)
abbrev cm (q : Nat → Nat) (c : Nat → ClassId) (C : Nat) (f n w d st : Nat → Int32) (t : Nat) (hi mi go : Int32) : va_W := [(q 0, .inr (2, [.int (nI C), .ref (q 1), .ref (q 2), .ref (q 3), .ref (q 4), .ref (q 5), .int (nI t), .int hi, .int mi, .int go])), (q 1, .inl (c 1, 320, .inl f)), (q 2, .inl (c 2, 5, .inl n)), (q 3, .inl (c 3, 64, .inl st)), (q 4, .inl (c 4, 64, .inl w)), (q 5, .inl (c 5, 64, .inl d))]
abbrev km (c : Nat → ClassId) : List (ClassId × FieldType) := [(c 1, .int), (c 2, .int), (c 3, .int), (c 4, .int), (c 5, .boolean)]
/-- the reference's arrays hold the lists -/
def fm_ok (f n : Nat → Int32) (L : Nat → List Int32) : Prop := ∀ k, 1 ≤ k → k ≤ 4 → n k = nI (L k).length ∧ ar_is (fun i => f (64 * k + i)) (L k)
abbrev at_M (dC : Nat → ClassId) (dI : Nat → Nat → Nat) (A : Nat → Prop) (q : Nat → Nat) (c : Nat → ClassId) (C : Nat) (u : ap_U) (t : State) : Prop := match u with
  | (L, w, d, st, tt, hi, mi, go) => ∃ f n, fm_ok f n L ∧ va_P (dC, dI) vwCl (cm q c C f n w d st tt hi mi go) t.heap ∧ va_K (dC, dI) vwCl (km c) t ∧ va_D A (cm q c C f n w d st tt hi mi go)
theorem fx_up {f : Nat → Nat → Int32} {L : Nat → List Int32} (h : fx_ok f L) {k : Nat} {g : Nat → Int32} {l : List Int32} (hg : ar_is g l.reverse) : fx_ok (va_up f k g) (va_up L k l) := by
  intro j h1 h4
  by_cases e : j = k
  · subst e
    rw [va_up_self, va_up_self]
    exact hg
  · rw [va_up_ne _ _ e, va_up_ne _ _ e]
    exact h j h1 h4
-- an index from the new end on
def al_at (l : List Int32) (i : Int32) : Int32 := if i < 0 ∨ nI l.length ≤ i then -1 else l.getD i.toNatClampNeg 0
def al_add (l : List Int32) (x : Int32) : List Int32 := if x < 0 ∨ nI 64 ≤ x then l else x :: l
theorem al_ix {i : Int32} {n : Nat} (h0 : ¬ i < 0) (h1 : ¬ nI n ≤ i) (hn : n < 2 ^ 31) : ∃ j : Nat, j < n ∧ i = nI j := by
  obtain ⟨j, a, b, -⟩ := pk_mu h0 h1 hn
  exact ⟨j, a, b⟩
theorem al_at_in {l : List Int32} {f : Nat → Int32} (hf : ar_is f l.reverse) {j : Nat} (hj : j < l.length) (hl : l.length ≤ 64) : f (l.length - 1 - j) = al_at l (nI j) := by
  unfold al_at
  rw [if_neg (fun h => h.elim (nI_pos (by omega)) (nI_ge hj (by omega))), nI_clamp (by omega)]
  have h1 := hf (l.length - 1 - j) (by rw [List.length_reverse]; omega)
  rw [List.getElem?_reverse (by omega)] at h1
  have e : l.length - 1 - (l.length - 1 - j) = j := by omega
  rw [e] at h1
  rw [List.getD_eq_getElem?_getD, h1]
  rfl
theorem al_at_old {l : List Int32} (hl : l.length ≤ 64) : al_at l (nI l.length - nI 1) = ap_old l := by
  by_cases h : l = []
  · subst h
    decide
  · have hp : 0 < l.length := List.length_pos_iff.mpr h
    rw [pk_sub (by omega)]
    unfold al_at
    rw [if_neg (fun h => h.elim (nI_pos (by omega)) (nI_ge (by omega) (by omega))), nI_clamp (by omega), List.getD_eq_getElem?_getD, ap_old_at h]
    rfl
theorem vp_in_64 {x : Int32} : vp_in x 64 ↔ ¬ (x < 0 ∨ nI 64 ≤ x) := by
  constructor
  · intro h
    obtain ⟨j, hj, rfl⟩ := vp_in_of h (by decide)
    exact fun h => h.elim (nI_pos (by omega)) (nI_ge hj (by omega))
  · intro h
    obtain ⟨j, hj, rfl⟩ := al_ix (fun a => h (Or.inl a)) (fun a => h (Or.inr a)) (by decide)
    exact vp_in_nI hj (by decide)
theorem al_rm_del {l : List Int32} {f f' : Nat → Int32} {x : Int32} {p : Nat} (hnd : l.Nodup) (hf : ar_is f l.reverse) (hp : p < l.length) (hx : f p = x) (h1 : ∀ j, j < p → f' j = f j) (h2 : ∀ j, p ≤ j → j + 1 < l.length → f' j = f (j + 1)) : (ap_rm x l).length = l.length - 1 ∧ ar_is f' (ap_rm x l).reverse := by
  have hpr : p < l.reverse.length := by rw [List.length_reverse]; exact hp
  have e : ap_rm x l.reverse = l.reverse.eraseIdx p := ap_rm_idx _ _ (List.pairwise_reverse.mpr (List.Pairwise.imp (fun h => Ne.symm h) hnd)) (by rw [hf p hpr, hx])
  constructor
  · have hm : x ∈ l := List.mem_reverse.mp (hx ▸ ar_mem hf hpr)
    have := ap_rm_len hnd hm
    omega
  · rw [ap_rm_rev, e]
    exact ar_del hf hpr h1 (fun j a b => h2 j a (by rw [List.length_reverse] at b; exact b))
theorem al_not_mem {l : List Int32} {f : Nat → Int32} {x : Int32} (hf : ar_is f l.reverse) (h : ∀ j, j < l.length → f j ≠ x) : x ∉ l := fun hm => by
  obtain ⟨j, hj, e⟩ := ar_of hf (List.mem_reverse.mpr hm)
  exact h j (by rw [List.length_reverse] at hj; exact hj) e
theorem al_mem {l : List Int32} {f : Nat → Int32} {x : Int32} (hf : ar_is f l.reverse) {p : Nat} (hp : p < l.length) (h : f p = x) : x ∈ l := List.mem_reverse.mp (h ▸ ar_mem hf (by rw [List.length_reverse]; exact hp))
theorem al_push {l : List Int32} {f : Nat → Int32} {x : Int32} (hf : ar_is f l.reverse) : ar_is (upd f l.length x) (x :: l).reverse := by
  rw [List.reverse_cons]
  have := ar_push (a := x) hf
  rw [List.length_reverse] at this
  exact this
