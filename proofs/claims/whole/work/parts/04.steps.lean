-- WHAT THE STEPS KEEP
theorem ap_mv_len {L : Nat → List Int32} (hI : ap_inv L) {o : Int32} {j k : Nat} (ho : o ∈ L j) (i : Nat) : (ap_mv L o j k i).length + (if i = j then 1 else 0) = (L i).length + (if i = k then 1 else 0) := by
  have h1 := ap_rm_len (hI.1 j) ho
  unfold ap_mv
  by_cases ek : i = k
  · subst ek
    rw [va_up_self, List.length_cons, if_pos rfl]
    by_cases ej : i = j
    · subst ej
      rw [va_up_self, if_pos rfl]
      omega
    · rw [va_up_ne _ _ ej, if_neg ej]
  · rw [va_up_ne _ _ ek, if_neg ek]
    by_cases ej : i = j
    · subst ej
      rw [va_up_self, if_pos rfl]
      omega
    · rw [va_up_ne _ _ ej, if_neg ej]
theorem ap_dr_len {L : Nat → List Int32} (hI : ap_inv L) {k : Nat} (h : L k ≠ []) (i : Nat) : (ap_dr L k i).length + (if i = k then 1 else 0) = (L i).length := by
  have h1 := ap_rm_len (hI.1 k) (ap_old_mem h)
  unfold ap_dr
  by_cases ej : i = k
  · subst ej
    rw [va_up_self, if_pos rfl]
    omega
  · rw [va_up_ne _ _ ej, if_neg ej]
    rfl
theorem ap_inv_dr {L : Nat → List Int32} (hI : ap_inv L) (k : Nat) : ap_inv (ap_dr L k) := ap_inv_rm hI k _
theorem ap_add_len {L : Nat → List Int32} {a : Int32} {k : Nat} (i : Nat) : (va_up L k (a :: L k) i).length = (L i).length + (if i = k then 1 else 0) := by
  by_cases ej : i = k
  · subst ej
    rw [va_up_self, if_pos rfl]
    rfl
  · rw [va_up_ne _ _ ej, if_neg ej]
    rfl
theorem ap_from_cases (L : Nat → List Int32) (t : Nat) (a : Int32) : (ap_from L t a = 1 ∧ L 1 ≠ []) ∨ (ap_from L t a = 2 ∧ (L 1).length ≤ t) := by
  unfold ap_from
  by_cases h : t < (L 1).length ∨ ((L 1).length = t ∧ 0 < t ∧ ap_wl L a = 4)
  · rw [if_pos h]
    refine Or.inl ⟨rfl, fun e => ?_⟩
    rw [e] at h
    simp at h
    omega
  · rw [if_neg h]
    refine Or.inr ⟨rfl, ?_⟩
    omega
def ap_mkF (S S' : ap_T) (t : Nat) : Prop := ap_inv S'.1 ∧ (S'.1 1).length + (S'.1 3).length = (S.1 1).length + (S.1 3).length ∧ (S'.1 2).length + (S'.1 4).length = (S.1 2).length + (S.1 4).length ∧ (((S'.1 1).length + (S'.1 2).length + 1 = (S.1 1).length + (S.1 2).length) ∨ (S'.1 = S.1 ∧ (S.1 2).length = 0 ∧ (S.1 1).length ≤ t)) ∧ ∀ x, ap_wl S.1 x ≠ 1 → ap_wl S.1 x ≠ 2 → ap_wl S'.1 x = ap_wl S.1 x
theorem ap_mk_facts {w : Nat → Int32} {t : Nat} {a : Int32} {S : ap_T} (hI : ap_inv S.1) : ap_mkF S (ap_mk w t a S) t := by
  have key : ∀ k, (k = 1 ∨ k = 2) → S.1 k ≠ [] → ap_mkF S (ap_og w k S) t := by
    intro k hk h
    have ho := ap_old_mem h
    have e : ap_og w k S = (ap_mv S.1 (ap_old (S.1 k)) k (k + 2), ap_cd S.2.1 (ap_old (S.1 k)), ap_cs w S.2.1 S.2.2.1 (ap_old (S.1 k)), S.2.2.2 + 1) := by
      unfold ap_og
      rw [if_neg h]
    rw [e]
    have hl := fun i => ap_mv_len (k := k + 2) hI ho i
    have l1 := hl 1
    have l2 := hl 2
    have l3 := hl 3
    have l4 := hl 4
    refine ⟨ap_inv_mv hI ho (by omega), ?_, ?_, Or.inl ?_, fun x h1 h2 => ?_⟩
    · dsimp only
      rcases hk with rfl | rfl <;> simp at l1 l2 l3 l4 ⊢ <;> omega
    · dsimp only
      rcases hk with rfl | rfl <;> simp at l1 l2 l3 l4 ⊢ <;> omega
    · dsimp only
      rcases hk with rfl | rfl <;> simp at l1 l2 l3 l4 ⊢ <;> omega
    · refine ap_wl_mv (fun e => ?_) _ _
      have hw := ap_wl_of hI ho
      rw [← e] at hw
      omega
  unfold ap_mk
  rcases ap_from_cases S.1 t a with ⟨e, h⟩ | ⟨e, h⟩
  · rw [e]
    exact key 1 (Or.inl rfl) h
  · rw [e]
    by_cases h2 : S.1 2 = []
    · have e2 : ap_og w 2 S = S := by
        unfold ap_og
        rw [if_pos h2]
      rw [e2]
      exact ⟨hI, rfl, rfl, Or.inr ⟨rfl, by rw [h2]; rfl, h⟩, fun _ _ _ => rfl⟩
    · exact key 2 (Or.inr rfl) h2
def ap_ok (C t : Nat) (L : Nat → List Int32) : Prop := ap_inv L ∧ 1 ≤ C ∧ C ≤ 24 ∧ t ≤ C ∧ (L 1).length + (L 2).length ≤ C ∧ (L 1).length + (L 3).length ≤ C ∧ ap_tot L ≤ 2 * C
theorem ap_ne {l : List Int32} (h : 0 < l.length) : l ≠ [] := fun e => by rw [e] at h; exact absurd h (Nat.lt_irrefl 0)
/-- behind ap_un: the lists are as they must be, the address is in none, and one more fits -/
theorem ap_un_ok {w d st : Nat → Int32} {C t : Nat} {a : Int32} {L : Nat → List Int32} {go : Int32} (h : ap_ok C t L) (hw : ap_wl L a = 0) : ap_inv (ap_un w C t a (L, d, st, go)).1 ∧ ap_wl (ap_un w C t a (L, d, st, go)).1 a = 0 ∧ ap_tot (ap_un w C t a (L, d, st, go)).1 + 1 ≤ 2 * C ∧ ((ap_un w C t a (L, d, st, go)).1 1).length + ((ap_un w C t a (L, d, st, go)).1 3).length + 1 ≤ C ∧ ((ap_un w C t a (L, d, st, go)).1 1).length + ((ap_un w C t a (L, d, st, go)).1 2).length + 1 ≤ C := by
  obtain ⟨hI, c1, c2, ht, s1, s2, s3⟩ := h
  have h0 := ap_wl_zero hI hw
  have hnd : ∀ k, L k ≠ [] → ap_wl (ap_dr L k) a = 0 := fun k hk => by
    unfold ap_dr
    have hne : a ≠ ap_old (L k) := fun e => by
      have hm := ap_old_mem hk
      rw [← e] at hm
      exact h0 k hm
    rw [ap_wl_rm hne]
    exact hw
  unfold ap_un
  dsimp only
  by_cases e1 : (L 1).length + (L 3).length = C
  · rw [if_pos e1]
    by_cases e2 : (L 1).length = C
    · rw [if_pos e2]
      dsimp only
      have hne : L 1 ≠ [] := ap_ne (by omega)
      have hl := ap_dr_len hI hne
      have l1 := hl 1
      have l2 := hl 2
      have l3 := hl 3
      have l4 := hl 4
      simp at l1 l2 l3 l4
      unfold ap_tot at s3 ⊢
      exact ⟨ap_inv_dr hI 1, hnd 1 hne, by omega, by omega, by omega⟩
    · rw [if_neg e2]
      have hne : L 3 ≠ [] := ap_ne (by omega)
      have hl := ap_dr_len hI hne
      have l1 := hl 1
      have l2 := hl 2
      have l3 := hl 3
      have l4 := hl 4
      simp at l1 l2 l3 l4
      obtain ⟨f1, f2, f3, f4, f5⟩ := ap_mk_facts (w := w) (t := t) (a := a) (S := (ap_dr L 3, d, st, go)) (ap_inv_dr hI 3)
      dsimp only at f1 f2 f3 f4 f5
      unfold ap_tot at s3 ⊢
      refine ⟨f1, ?_, by omega, by omega, ?_⟩
      · rw [f5 a (by rw [hnd 3 hne]; omega) (by rw [hnd 3 hne]; omega)]
        exact hnd 3 hne
      · rcases f4 with f4 | ⟨f4, g4, g5⟩
        · omega
        · rw [f4]
          omega
  · rw [if_neg e1]
    by_cases e3 : C ≤ ap_tot L
    · rw [if_pos e3]
      by_cases e4 : ap_tot L = 2 * C
      · rw [if_pos e4]
        have hne : L 4 ≠ [] := ap_ne (by unfold ap_tot at e4; omega)
        have hl := ap_dr_len hI hne
        have l1 := hl 1
        have l2 := hl 2
        have l3 := hl 3
        have l4 := hl 4
        simp at l1 l2 l3 l4
        obtain ⟨f1, f2, f3, f4, f5⟩ := ap_mk_facts (w := w) (t := t) (a := a) (S := (ap_dr L 4, d, st, go)) (ap_inv_dr hI 4)
        dsimp only at f1 f2 f3 f4 f5
        unfold ap_tot at s3 e4 ⊢
        refine ⟨f1, ?_, by omega, by omega, ?_⟩
        · rw [f5 a (by rw [hnd 4 hne]; omega) (by rw [hnd 4 hne]; omega)]
          exact hnd 4 hne
        · rcases f4 with f4 | ⟨f4, g4, g5⟩
          · omega
          · rw [f4]
            omega
      · rw [if_neg e4]
        obtain ⟨f1, f2, f3, f4, f5⟩ := ap_mk_facts (w := w) (t := t) (a := a) (S := (L, d, st, go)) hI
        dsimp only at f1 f2 f3 f4 f5
        unfold ap_tot at s3 e4 e3 ⊢
        refine ⟨f1, ?_, by omega, by omega, ?_⟩
        · rw [f5 a (by omega) (by omega)]
          exact hw
        · rcases f4 with f4 | ⟨f4, g4, g5⟩
          · omega
          · rw [f4]
            omega
    · rw [if_neg e3]
      dsimp only
      unfold ap_tot at s3 e3 ⊢
      exact ⟨hI, hw, by omega, by omega, by omega⟩
theorem ap_tg_le {L : Nat → List Int32} {C t k : Nat} (ht : t ≤ C) : ap_tg L C t k ≤ C := by
  unfold ap_tg
  split <;> omega
theorem ap_rq_ok {C t : Nat} {a : Int32} {L : Nat → List Int32} {w d st : Nat → Int32} {hi mi go : Int32} (h : ap_ok C t L) (ha : vp_in a 64) : ap_ok C (ap_rq C a (L, w, d, st, t, hi, mi, go)).2.2.2.2.1 (ap_rq C a (L, w, d, st, t, hi, mi, go)).1 := by
  have h' := h
  obtain ⟨hI, c1, c2, ht, s1, s2, s3⟩ := h'
  unfold ap_rq
  dsimp only
  by_cases e1 : ap_wl L a = 1 ∨ ap_wl L a = 2
  · rw [if_pos e1]
    dsimp only
    have hm : a ∈ L (ap_wl L a) := ap_wl_mem (by omega)
    have hl := ap_mv_len (k := 2) hI hm
    have l1 := hl 1
    have l2 := hl 2
    have l3 := hl 3
    have l4 := hl 4
    refine ⟨ap_inv_mv hI hm (by omega), c1, c2, ht, ?_, ?_, ?_⟩
    · rcases e1 with e1 | e1 <;> rw [e1] at l1 l2 l3 l4 ⊢ <;> simp at l1 l2 l3 l4 <;> omega
    · rcases e1 with e1 | e1 <;> rw [e1] at l1 l2 l3 l4 ⊢ <;> simp at l1 l2 l3 l4 <;> omega
    · unfold ap_tot at s3 ⊢
      rcases e1 with e1 | e1 <;> rw [e1] at l1 l2 l3 l4 ⊢ <;> simp at l1 l2 l3 l4 <;> omega
  · rw [if_neg e1]
    by_cases e0 : ap_wl L a = 0
    · rw [if_pos e0]
      obtain ⟨g1, g2, g3, g4, g5⟩ := ap_un_ok (w := w) (d := d) (st := st) (go := go) h e0
      dsimp only
      have hl := fun i => ap_add_len (L := (ap_un w C t a (L, d, st, go)).1) (a := a) (k := 1) i
      have l1 := hl 1
      have l2 := hl 2
      have l3 := hl 3
      have l4 := hl 4
      simp at l1 l2 l3 l4
      unfold ap_tot at g3
      refine ⟨ap_inv_add g1 (ap_wl_zero g1 g2) ha (by omega), c1, c2, ht, ?_, ?_, ?_⟩
      · rw [l1, l2]; omega
      · rw [l1, l3]; omega
      · unfold ap_tot; rw [l1, l2, l3, l4]; omega
    · rw [if_neg e0]
      have e34 : ap_wl L a = 3 ∨ ap_wl L a = 4 := by have := ap_wl_le L a; omega
      obtain ⟨f1, f2, f3, f4, f5⟩ := ap_mk_facts (w := w) (t := ap_tg L C t (ap_wl L a)) (a := a) (S := (L, d, st, go)) hI
      dsimp only at f1 f2 f3 f4 f5 ⊢
      have hwl := f5 a (by omega) (by omega)
      have hm0 : a ∈ L (ap_wl L a) := ap_wl_mem (by omega)
      have hm : a ∈ (ap_mk w (ap_tg L C t (ap_wl L a)) a (L, d, st, go)).1 (ap_wl L a) := by
        have := ap_wl_mem (L := (ap_mk w (ap_tg L C t (ap_wl L a)) a (L, d, st, go)).1) (a := a) (by rw [hwl]; omega)
        rw [hwl] at this
        exact this
      have hp0 : 0 < (L (ap_wl L a)).length := List.length_pos_of_mem hm0
      have hl := ap_mv_len (k := 2) f1 hm
      have l1 := hl 1
      have l2 := hl 2
      have l3 := hl 3
      have l4 := hl 4
      have htg := ap_tg_le (L := L) (C := C) (t := t) (k := ap_wl L a) ht
      have htg4 : ap_wl L a = 4 → ap_tg L C t (ap_wl L a) + 1 ≤ C := fun e => by
        rw [e]
        unfold ap_tg
        rw [if_neg (by omega)]
        omega
      refine ⟨ap_inv_mv f1 hm (by omega), c1, c2, htg, ?_, ?_, ?_⟩
      · generalize (ap_mk w (ap_tg L C t (ap_wl L a)) a (L, d, st, go)).1 = L' at *
        generalize ap_tg L C t (ap_wl L a) = t' at *
        rcases e34 with e | e <;> rw [e] at l1 l2 l3 l4 hp0 ⊢ <;> simp at l1 l2 l3 l4
        · rcases f4 with f4 | ⟨f4, g4, g5⟩
          · omega
          · subst f4; omega
        · have htg4 := htg4 e
          rcases f4 with f4 | ⟨f4, g4, g5⟩
          · omega
          · subst f4; omega
      · generalize (ap_mk w (ap_tg L C t (ap_wl L a)) a (L, d, st, go)).1 = L' at *
        rcases e34 with e | e <;> rw [e] at l1 l2 l3 l4 ⊢ <;> simp at l1 l2 l3 l4 <;> omega
      · unfold ap_tot at s3 ⊢
        generalize (ap_mk w (ap_tg L C t (ap_wl L a)) a (L, d, st, go)).1 = L' at *
        rcases e34 with e | e <;> rw [e] at l1 l2 l3 l4 ⊢ <;> simp at l1 l2 l3 l4 <;> omega
