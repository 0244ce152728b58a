-- PURE ROWS: lists of addresses held in arrays, and the steps of the cache as functions
def ar_is (f : Nat → Int32) (r : List Int32) : Prop := ∀ j, j < r.length → r[j]? = some (f j)
def ap_rm (a : Int32) (l : List Int32) : List Int32 := l.filter (fun x => decide (x ≠ a))
theorem ar_nil {f : Nat → Int32} : ar_is f [] := fun j h => absurd h (Nat.not_lt_zero j)
theorem ar_push {f : Nat → Int32} {r : List Int32} {a : Int32} (h : ar_is f r) : ar_is (upd f r.length a) (r ++ [a]) := by
  intro j hj
  rw [List.length_append, List.length_singleton] at hj
  rw [List.getElem?_append]
  by_cases h1 : j < r.length
  · rw [if_pos h1, h j h1, pk_un (by omega)]
  · have e : j = r.length := by omega
    subst e
    rw [if_neg h1, pk_us]
    simp
theorem ar_del {f f' : Nat → Int32} {r : List Int32} {p : Nat} (h : ar_is f r) (hp : p < r.length) (h1 : ∀ j, j < p → f' j = f j) (h2 : ∀ j, p ≤ j → j + 1 < r.length → f' j = f (j + 1)) : ar_is f' (r.eraseIdx p) := by
  intro j hj
  rw [List.length_eraseIdx, if_pos hp] at hj
  rw [List.getElem?_eraseIdx]
  by_cases hjp : j < p
  · rw [if_pos hjp, h j (by omega), h1 j hjp]
  · rw [if_neg hjp, h (j + 1) (by omega), h2 j (by omega) (by omega)]
theorem ar_cons {f f' : Nat → Int32} {r : List Int32} {a : Int32} (h : ar_is f r) (h0 : f' 0 = a) (h1 : ∀ j, j < r.length → f' (j + 1) = f j) : ar_is f' (a :: r) := by
  intro j hj
  cases j with
  | zero => rw [h0]; rfl
  | succ j =>
    have hj' : j < r.length := by simpa using hj
    rw [List.getElem?_cons_succ, h j hj', h1 j hj']
theorem ar_cong {f f' : Nat → Int32} {r : List Int32} (h : ar_is f r) (he : ∀ j, j < r.length → f' j = f j) : ar_is f' r := fun j hj => by rw [h j hj, he j hj]
theorem ar_mem {f : Nat → Int32} {r : List Int32} (h : ar_is f r) {j : Nat} (hj : j < r.length) : f j ∈ r := List.mem_of_getElem? (h j hj)
theorem ar_of {f : Nat → Int32} {r : List Int32} {a : Int32} (h : ar_is f r) (ha : a ∈ r) : ∃ j, j < r.length ∧ f j = a := by
  obtain ⟨j, hj⟩ := List.mem_iff_getElem?.mp ha
  have hl : j < r.length := (List.getElem?_eq_some_iff.mp hj).1
  exact ⟨j, hl, Option.some.inj ((h j hl).symm.trans hj)⟩
theorem ap_rm_idx {a : Int32} : ∀ (r : List Int32) (p : Nat), r.Nodup → r[p]? = some a → ap_rm a r = r.eraseIdx p
  | [], p, _, h => by simp at h
  | x :: r, 0, hn, h => by
    have hx : x = a := by simpa using h
    subst hx
    have hni : x ∉ r := (List.nodup_cons.mp hn).1
    show List.filter _ (x :: r) = r
    rw [List.filter_cons_of_neg (by simp)]
    exact List.filter_eq_self.mpr (fun y hy => by
      have : y ≠ x := fun e => hni (e ▸ hy)
      simpa using this)
  | x :: r, p + 1, hn, h => by
    have h' : r[p]? = some a := by simpa using h
    have hne : x ≠ a := fun e => (List.nodup_cons.mp hn).1 (e ▸ List.mem_of_getElem? h')
    have ih := ap_rm_idx r p (List.nodup_cons.mp hn).2 h'
    show List.filter _ (x :: r) = x :: r.eraseIdx p
    rw [List.filter_cons_of_pos (by simpa using hne)]
    exact congrArg _ ih
theorem ap_rm_out {a : Int32} {l : List Int32} (h : a ∉ l) : ap_rm a l = l := List.filter_eq_self.mpr (fun y hy => by
  have : y ≠ a := fun e => h (e ▸ hy)
  simpa using this)
theorem ap_rm_rev {a : Int32} {l : List Int32} : (ap_rm a l).reverse = ap_rm a l.reverse := by
  unfold ap_rm
  rw [List.filter_reverse]
theorem ap_rm_mem {a x : Int32} {l : List Int32} : x ∈ ap_rm a l ↔ x ∈ l ∧ x ≠ a := by
  unfold ap_rm
  rw [List.mem_filter]
  simp
theorem ap_rm_nodup {a : Int32} {l : List Int32} (h : l.Nodup) : (ap_rm a l).Nodup := List.Pairwise.filter _ h
theorem ap_rm_len {a : Int32} {l : List Int32} (hn : l.Nodup) (ha : a ∈ l) : (ap_rm a l).length + 1 = l.length := by
  obtain ⟨j, hj⟩ := List.mem_iff_getElem?.mp ha
  have hl : j < l.length := (List.getElem?_eq_some_iff.mp hj).1
  rw [ap_rm_idx l j hn hj, List.length_eraseIdx, if_pos hl]
  omega
theorem ap_rm_le {a : Int32} {l : List Int32} : (ap_rm a l).length ≤ l.length := List.length_filter_le _ _
/-- the old end of a list (new end first); -1 where there is none -/
def ap_old (l : List Int32) : Int32 := l.getLastD (-1)
theorem ap_old_nil : ap_old [] = -1 := rfl
theorem ap_old_at {l : List Int32} (h : l ≠ []) : l[l.length - 1]? = some (ap_old l) := by
  unfold ap_old
  rw [← List.getLast?_eq_getElem?, List.getLastD_eq_getLast?, List.getLast?_eq_some_getLast h]
  rfl
theorem ap_old_mem {l : List Int32} (h : l ≠ []) : ap_old l ∈ l := List.mem_of_getElem? (ap_old_at h)
theorem ap_old_rev {f : Nat → Int32} {l : List Int32} (h : l ≠ []) (hf : ar_is f l.reverse) : f 0 = ap_old l := by
  have hl : 0 < l.length := List.length_pos_iff.mpr h
  have h0 := hf 0 (by simpa using hl)
  have h1 := ap_old_at h
  rw [List.getElem?_reverse hl] at h0
  have : l.length - 1 - 0 = l.length - 1 := by omega
  rw [this, h1] at h0
  exact (Option.some.inj h0).symm
/-- the lists: no repeats, apart, of addresses alone, numbers 1 .. 4 -/
def ap_inv (L : Nat → List Int32) : Prop := (∀ k, (L k).Nodup) ∧ (∀ j k x, x ∈ L j → x ∈ L k → j = k) ∧ ∀ k x, x ∈ L k → vp_in x 64 ∧ 1 ≤ k ∧ k ≤ 4
def ap_wl (L : Nat → List Int32) (a : Int32) : Nat := if a ∈ L 1 then 1 else if a ∈ L 2 then 2 else if a ∈ L 3 then 3 else if a ∈ L 4 then 4 else 0
theorem ap_wl_of {L : Nat → List Int32} {a : Int32} {k : Nat} (hI : ap_inv L) (h : a ∈ L k) : ap_wl L a = k := by
  have hk := (hI.2.2 k a h).2
  have one : ∀ j, a ∈ L j → j = k := fun j hj => hI.2.1 j k a hj h
  unfold ap_wl
  by_cases h1 : a ∈ L 1
  · rw [if_pos h1]; exact one 1 h1
  · rw [if_neg h1]
    by_cases h2 : a ∈ L 2
    · rw [if_pos h2]; exact one 2 h2
    · rw [if_neg h2]
      by_cases h3 : a ∈ L 3
      · rw [if_pos h3]; exact one 3 h3
      · rw [if_neg h3]
        by_cases h4 : a ∈ L 4
        · rw [if_pos h4]; exact one 4 h4
        · exfalso
          have : k = 1 ∨ k = 2 ∨ k = 3 ∨ k = 4 := by omega
          rcases this with rfl | rfl | rfl | rfl <;> contradiction
theorem ap_wl_le (L : Nat → List Int32) (a : Int32) : ap_wl L a ≤ 4 := by
  unfold ap_wl
  repeat' split
  all_goals omega
theorem ap_wl_mem {L : Nat → List Int32} {a : Int32} (h : ap_wl L a ≠ 0) : a ∈ L (ap_wl L a) := by
  unfold ap_wl at h ⊢
  by_cases h1 : a ∈ L 1
  · rw [if_pos h1]; exact h1
  · rw [if_neg h1] at h ⊢
    by_cases h2 : a ∈ L 2
    · rw [if_pos h2]; exact h2
    · rw [if_neg h2] at h ⊢
      by_cases h3 : a ∈ L 3
      · rw [if_pos h3]; exact h3
      · rw [if_neg h3] at h ⊢
        by_cases h4 : a ∈ L 4
        · rw [if_pos h4]; exact h4
        · rw [if_neg h4] at h; exact absurd rfl h
theorem ap_wl_zero {L : Nat → List Int32} {a : Int32} (hI : ap_inv L) (h : ap_wl L a = 0) : ∀ k, a ∉ L k := fun k hk => by
  have h1 := ap_wl_of hI hk
  have h2 := (hI.2.2 k a hk).2.1
  omega
theorem ap_wl_none {L : Nat → List Int32} {a : Int32} (h : ∀ k, a ∉ L k) : ap_wl L a = 0 := by
  unfold ap_wl
  rw [if_neg (h 1), if_neg (h 2), if_neg (h 3), if_neg (h 4)]
theorem ap_up_mem {L : Nat → List Int32} {k j : Nat} {l : List Int32} {x : Int32} (h : x ∈ va_up L k l j) : (j = k ∧ x ∈ l) ∨ (j ≠ k ∧ x ∈ L j) := by
  by_cases e : j = k
  · subst e
    rw [va_up_self] at h
    exact Or.inl ⟨rfl, h⟩
  · rw [va_up_ne _ _ e] at h
    exact Or.inr ⟨e, h⟩
theorem ap_inv_rm {L : Nat → List Int32} (hI : ap_inv L) (k : Nat) (a : Int32) : ap_inv (va_up L k (ap_rm a (L k))) := by
  have sub : ∀ j x, x ∈ va_up L k (ap_rm a (L k)) j → x ∈ L j := fun j x h => by
    rcases ap_up_mem h with ⟨rfl, h⟩ | ⟨_, h⟩
    · exact (ap_rm_mem.mp h).1
    · exact h
  refine ⟨fun j => ?_, fun i j x h1 h2 => hI.2.1 i j x (sub i x h1) (sub j x h2), fun j x h => hI.2.2 j x (sub j x h)⟩
  by_cases e : j = k
  · subst e
    rw [va_up_self]
    exact ap_rm_nodup (hI.1 j)
  · rw [va_up_ne _ _ e]
    exact hI.1 j
theorem ap_inv_add {L : Nat → List Int32} (hI : ap_inv L) {k : Nat} {a : Int32} (ha : ∀ j, a ∉ L j) (h64 : vp_in a 64) (hk : 1 ≤ k ∧ k ≤ 4) : ap_inv (va_up L k (a :: L k)) := by
  have sub : ∀ j x, x ∈ va_up L k (a :: L k) j → (j = k ∧ x = a) ∨ x ∈ L j := fun j x h => by
    rcases ap_up_mem h with ⟨rfl, h⟩ | ⟨_, h⟩
    · rcases List.mem_cons.mp h with h | h
      · exact Or.inl ⟨rfl, h⟩
      · exact Or.inr h
    · exact Or.inr h
  refine ⟨fun j => ?_, fun i j x h1 h2 => ?_, fun j x h => ?_⟩
  · by_cases e : j = k
    · subst e
      rw [va_up_self]
      exact List.nodup_cons.mpr ⟨ha j, hI.1 j⟩
    · rw [va_up_ne _ _ e]
      exact hI.1 j
  · rcases sub i x h1 with ⟨e1, e2⟩ | h1
    · rcases sub j x h2 with ⟨e3, e4⟩ | h2
      · omega
      · exact absurd (e2 ▸ h2) (ha j)
    · rcases sub j x h2 with ⟨e3, e4⟩ | h2
      · exact absurd (e4 ▸ h1) (ha i)
      · exact hI.2.1 i j x h1 h2
  · rcases sub j x h with ⟨rfl, rfl⟩ | h
    · exact ⟨h64, hk⟩
    · exact hI.2.2 j x h
/-- an address taken out of its list is in none -/
theorem ap_rm_none {L : Nat → List Int32} (hI : ap_inv L) {k : Nat} {a : Int32} (ha : a ∈ L k) : ∀ j, a ∉ va_up L k (ap_rm a (L k)) j := fun j h => by
  rcases ap_up_mem h with ⟨rfl, h⟩ | ⟨e, h⟩
  · exact (ap_rm_mem.mp h).2 rfl
  · exact e (hI.2.1 j k a h ha)
/-- o moves from list j to the new end of list k -/
def ap_mv (L : Nat → List Int32) (o : Int32) (j k : Nat) : Nat → List Int32 := va_up (va_up L j (ap_rm o (L j))) k (o :: va_up L j (ap_rm o (L j)) k)
theorem ap_inv_mv {L : Nat → List Int32} (hI : ap_inv L) {o : Int32} {j k : Nat} (ho : o ∈ L j) (hk : 1 ≤ k ∧ k ≤ 4) : ap_inv (ap_mv L o j k) :=
  ap_inv_add (ap_inv_rm hI j o) (ap_rm_none hI ho) (hI.2.2 j o ho).1 hk
theorem ap_wl_rm {L : Nat → List Int32} {a o : Int32} (h : a ≠ o) (k : Nat) : ap_wl (va_up L k (ap_rm o (L k))) a = ap_wl L a := by
  have iff : ∀ j, a ∈ va_up L k (ap_rm o (L k)) j ↔ a ∈ L j := fun j => by
    by_cases e : j = k
    · subst e
      rw [va_up_self, ap_rm_mem]
      exact ⟨fun h => h.1, fun h' => ⟨h', h⟩⟩
    · rw [va_up_ne _ _ e]
  unfold ap_wl
  simp only [iff]
theorem ap_wl_add {L : Nat → List Int32} {a o : Int32} (h : a ≠ o) (k : Nat) : ap_wl (va_up L k (o :: L k)) a = ap_wl L a := by
  have iff : ∀ j, a ∈ va_up L k (o :: L k) j ↔ a ∈ L j := fun j => by
    by_cases e : j = k
    · subst e
      rw [va_up_self, List.mem_cons]
      exact ⟨fun h' => h'.elim (fun e => absurd e h) id, Or.inr⟩
    · rw [va_up_ne _ _ e]
  unfold ap_wl
  simp only [iff]
theorem ap_wl_mv {L : Nat → List Int32} {a o : Int32} (h : a ≠ o) (j k : Nat) : ap_wl (ap_mv L o j k) a = ap_wl L a := by
  unfold ap_mv
  rw [ap_wl_add h, ap_wl_rm h]
-- THE STEPS
abbrev ap_T : Type := (Nat → List Int32) × (Nat → Int32) × (Nat → Int32) × Int32
abbrev ap_U : Type := (Nat → List Int32) × (Nat → Int32) × (Nat → Int32) × (Nat → Int32) × Nat × Int32 × Int32 × Int32
/-- an address's page is written back: the store, the marks -/
def ap_cs (w d st : Nat → Int32) (o : Int32) : Nat → Int32 := upd st o.toNatClampNeg (if d o.toNatClampNeg = 0 then st o.toNatClampNeg else w o.toNatClampNeg)
def ap_cd (d : Nat → Int32) (o : Int32) : Nat → Int32 := upd d o.toNatClampNeg 0
/-- the old end of list k goes, and comes to list k + 2 -/
def ap_og (w : Nat → Int32) (k : Nat) (S : ap_T) : ap_T := if S.1 k = [] then S else (ap_mv S.1 (ap_old (S.1 k)) k (k + 2), ap_cd S.2.1 (ap_old (S.1 k)), ap_cs w S.2.1 S.2.2.1 (ap_old (S.1 k)), S.2.2.2 + 1)
def ap_from (L : Nat → List Int32) (t : Nat) (a : Int32) : Nat := if t < (L 1).length ∨ ((L 1).length = t ∧ 0 < t ∧ ap_wl L a = 4) then 1 else 2
def ap_mk (w : Nat → Int32) (t : Nat) (a : Int32) (S : ap_T) : ap_T := ap_og w (ap_from S.1 t a) S
def ap_dr (L : Nat → List Int32) (k : Nat) : Nat → List Int32 := va_up L k (ap_rm (ap_old (L k)) (L k))
def ap_tot (L : Nat → List Int32) : Nat := (L 1).length + (L 2).length + (L 3).length + (L 4).length
def ap_un (w : Nat → Int32) (C t : Nat) (a : Int32) (S : ap_T) : ap_T :=
  if (S.1 1).length + (S.1 3).length = C then
    if (S.1 1).length = C then (ap_dr S.1 1, ap_cd S.2.1 (ap_old (S.1 1)), ap_cs w S.2.1 S.2.2.1 (ap_old (S.1 1)), S.2.2.2 + 1)
    else ap_mk w t a (ap_dr S.1 3, S.2)
  else if C ≤ ap_tot S.1 then
    if ap_tot S.1 = 2 * C then ap_mk w t a (ap_dr S.1 4, S.2) else ap_mk w t a S
  else S
def ap_tg (L : Nat → List Int32) (C t k : Nat) : Nat := if k = 3 then min C (t + max 1 ((L 4).length / (L 3).length)) else t - max 1 ((L 3).length / (L 4).length)
def ap_rq (C : Nat) (a : Int32) (u : ap_U) : ap_U := match u with
  | (L, w, d, st, t, hi, mi, go) =>
    if ap_wl L a = 1 ∨ ap_wl L a = 2 then (ap_mv L a (ap_wl L a) 2, w, d, st, t, hi + 1, mi, go)
    else if ap_wl L a = 0 then
      match ap_un w C t a (L, d, st, go) with
      | (L', d', st', go') => (va_up L' 1 (a :: L' 1), upd w a.toNatClampNeg (st' a.toNatClampNeg), upd d' a.toNatClampNeg 0, st', t, hi, mi + 1, go')
    else
      match ap_mk w (ap_tg L C t (ap_wl L a)) a (L, d, st, go) with
      | (L', d', st', go') => (ap_mv L' a (ap_wl L a) 2, upd w a.toNatClampNeg (st' a.toNatClampNeg), upd d' a.toNatClampNeg 0, st', ap_tg L C t (ap_wl L a), hi, mi + 1, go')
