-- THE CLASS, first part (laid by wip/gen/xx.py)
theorem fx_same {f : Nat → Nat → Int32} {L : Nat → List Int32} (h : fx_ok f L) {k : Nat} {g : Nat → Int32} (hg : ar_is g (L k).reverse) : fx_ok (va_up f k g) L := by
  intro j h1 h4
  by_cases e : j = k
  · subst e
    rw [va_up_self]
    exact hg
  · rw [va_up_ne _ _ e]
    exact h j h1 h4
theorem ap_nar0 : vp_nar .boolean (nI 0) = 0 := by decide
theorem ap_nar1 : vp_nar .boolean (nI 1) = 1 := by decide
theorem ap_upd_self {f : Nat → Int32} {k : Nat} {x : Int32} (h : f k = x) : upd f k x = f := by
  funext j
  by_cases e : j = k
  · subst e
    rw [pk_us, h]
  · rw [pk_un e]
theorem ap_cd_0 {d : Nat → Int32} {o : Int32} (h : d o.toNatClampNeg = 0) : ap_cd d o = d := ap_upd_self h
theorem ap_cs_0 {w d st : Nat → Int32} {o : Int32} (h : d o.toNatClampNeg = 0) : ap_cs w d st o = st := by
  unfold ap_cs
  rw [if_pos h]
  exact ap_upd_self rfl
theorem ap_cs_1 {w d st : Nat → Int32} {o : Int32} (h : ¬ d o.toNatClampNeg = 0) : ap_cs w d st o = upd st o.toNatClampNeg (w o.toNatClampNeg) := by
  unfold ap_cs
  rw [if_neg h]
def ap_tu (w : Nat → Int32) (tg : Nat) (hi mi : Int32) (S : ap_T) : ap_U := (S.1, w, S.2.1, S.2.2.1, tg, hi, mi, S.2.2.2)
theorem ap_wl4 {L : Nat → List Int32} (hI : ap_inv L) {x : Int32} : ap_wl L x = 4 ↔ x ∈ L 4 := by
  constructor
  · intro h
    have := ap_wl_mem (L := L) (a := x) (by omega)
    rw [h] at this
    exact this
  · exact ap_wl_of hI
theorem ap_mk_1 {w : Nat → Int32} {t : Nat} {a : Int32} {S : ap_T} (h : t < (S.1 1).length ∨ ((S.1 1).length = t ∧ 0 < t ∧ ap_wl S.1 a = 4)) : ap_mk w t a S = ap_og w 1 S := by
  unfold ap_mk ap_from
  rw [if_pos h]
theorem ap_mk_2 {w : Nat → Int32} {t : Nat} {a : Int32} {S : ap_T} (h : ¬ (t < (S.1 1).length ∨ ((S.1 1).length = t ∧ 0 < t ∧ ap_wl S.1 a = 4))) : ap_mk w t a S = ap_og w 2 S := by
  unfold ap_mk ap_from
  rw [if_neg h]
theorem ap_rm_nil {x : Int32} {l : List Int32} (h : l = []) : ap_rm x l = l := by
  subst h
  rfl
theorem al_add_no {l : List Int32} : al_add l (-1) = l := by
  unfold al_add
  rw [if_pos (Or.inl (by decide))]
theorem al_add_in {l : List Int32} {x : Int32} (h : vp_in x 64) : al_add l x = x :: l := by
  unfold al_add
  rw [if_neg (vp_in_64.mp h)]
theorem ap_old_in {L : Nat → List Int32} (hI : ap_inv L) {k : Nat} (h : L k ≠ []) : vp_in (ap_old (L k)) 64 := (hI.2.2 k _ (ap_old_mem h)).1
theorem ap_max0 {a b : Nat} (ha : a < 2 ^ 30) (hb : b < 2 ^ 30) : (if (nI 0) < nI a - nI b then nI a - nI b else nI 0) = nI (a - b) := by
  rcases Nat.lt_or_ge b a with h | h
  · rw [pk_sub (by omega), if_pos (nI_lt (by omega) (by omega))]
  · have e : a - b = 0 := by omega
    rw [e]
    by_cases e2 : a = b
    · subst e2
      rw [pk_sub (by omega), Nat.sub_self, if_neg (nI_nlt (by omega) (by decide))]
    · rw [if_neg]
      have h1 := pk_sneg (a := a) hb (by omega)
      intro h2
      have h3 : nI a - nI b < nI 0 := h1
      have e1 := Int32.lt_iff_toInt_lt.mp h2
      have e2 := Int32.lt_iff_toInt_lt.mp h3
      omega
theorem ap_maxN {a b : Nat} (ha : a < 2 ^ 31) (hb : b < 2 ^ 31) : (if nI a < nI b then nI b else nI a) = nI (max a b) := by
  by_cases h : a < b
  · rw [if_pos (nI_lt h hb), Nat.max_eq_right (by omega)]
  · rw [if_neg (nI_nlt (by omega) ha), Nat.max_eq_left (by omega)]
theorem ap_minN {a b : Nat} (ha : a < 2 ^ 31) (hb : b < 2 ^ 31) : (if nI b < nI a then nI b else nI a) = nI (min a b) := by
  by_cases h : b < a
  · rw [if_pos (nI_lt h ha), Nat.min_eq_right (by omega)]
  · rw [if_neg (nI_nlt (by omega) hb), Nat.min_eq_left (by omega)]
theorem ap_divle {a b : Nat} : a / b ≤ a := Nat.div_le_self a b
set_option maxHeartbeats 4000000 in
set_option maxRecDepth 100000 in
theorem c_X_isList (l : Launch) (dC : Nat → ClassId) (dI : Nat → Nat → Nat) (x : Int32) (sz : Nat)  : Met l yX1_isList wsX1_isList ({ frames := 0, cells := 0, slots := 0, locals := 0 }) (va_Pc [.int x] (fun U => U.heap.size = sz)) (va_Qi (fun (r : Int32) (_ : Unit) => r = (if x < nI 1 ∨ nI 4 < x then nI 0 else nI 1)) (fun _ _ => True) (va_A [] sz)) 0 0 (va_A [] sz) := by
  refine Met.ofW (cc := cX1_isList) (maxL := 1) (ret := (some .boolean)) (by decide) rfl ?_
  intro p e s m args below meth c s₁ B hml hv
  obtain ⟨rfl, hsz⟩ := hv
  have hx := B.exec
  have hb := B.bytes
  have hr := B.returns
  have hts := atoms_spec (ws := wsX1_isList) B.pre
  have hown : s.vm.findClass RX1 = some m.cls := findClass_of_methodNamed B.named
  have hlocks := B.notSynchronized
  subst hsz
  have hP : va_P (dC, dI) vwCl [] s.heap := fun k q h => by simp at h
  have hD : va_D (va_A [] s.heap.size) [] := ⟨fun i j p q h => by simp at h, fun k q h => by simp at h⟩
  generalize hAe : va_A [] s.heap.size = A at hD ⊢
  have hA : ∀ q : Nat, s.heap.size ≤ q → A q := fun q h => by rw [← hAe]; exact Or.inr h
  have hS0 : ∀ H, s.heap = H → va_S A s.heap H [] := fun H h => by subst h; exact va_S.rf
  have hl := lv_entry ([.int x]) (n := 1) (Nat.le_of_ble_eq_true rfl)
  rw [lg_entry_eq]
  generalize (lg_sl ([.int x]) ++ List.replicate (1 - (lg_sl ([.int x])).length) Slot.unset).toArray = ls at hl ⊢
  have hl : lv_has ls 1 [(0, .int x)] := hl
  generalize hHe : s.heap = H at hP ⊢
  have hS := hS0 H hHe
  refine lv_iload_n hx hb dX1_isList_0 rfl (lv_at hl 0 rfl) ?_
  refine lv_iconst (v := nI 1) hx hb dX1_isList_1 (by decide) ?_
  refine lv_icmp_lt (tgt := 14) hx hb dX1_isList_2 (by decide) (fun c_2 => ?_) (fun c_2 => ?_)
  · skip
    refine lv_iconst (v := nI 0) hx hb dX1_isList_14 (by decide) ?_
    exact W.zret (v := nI 0) (ty := .boolean) hx hb hr (by decide) (fun t ht hW => ⟨⟨nI 0, (), rfl, (if_pos (by first | exact Or.inl c_2 | exact Or.inr c_7)).symm, trivial⟩, hS.F ht⟩) hS.2.2 dX1_isList_15
  · skip
    refine lv_iload_n hx hb dX1_isList_5 rfl (lv_at hl 0 rfl) ?_
    refine lv_iconst (v := nI 4) hx hb dX1_isList_6 (by decide) ?_
    refine lv_icmp_gt (tgt := 14) hx hb dX1_isList_7 (by decide) (fun c_7 => ?_) (fun c_7 => ?_)
    · skip
      refine lv_iconst (v := nI 0) hx hb dX1_isList_14 (by decide) ?_
      exact W.zret (v := nI 0) (ty := .boolean) hx hb hr (by decide) (fun t ht hW => ⟨⟨nI 0, (), rfl, (if_pos (by first | exact Or.inl c_2 | exact Or.inr c_7)).symm, trivial⟩, hS.F ht⟩) hS.2.2 dX1_isList_15
    · skip
      refine lv_iconst (v := nI 1) hx hb dX1_isList_10 (by decide) ?_
      refine lv_goto (tgt := 15) hx hb dX1_isList_11 (by decide) ?_
      exact W.zret (v := nI 1) (ty := .boolean) hx hb hr (by decide) (fun t ht hW => ⟨⟨nI 1, (), rfl, (if_neg (fun h9 => h9.elim c_2 c_7)).symm, trivial⟩, hS.F ht⟩) hS.2.2 dX1_isList_15
set_option maxHeartbeats 4000000 in
set_option maxRecDepth 100000 in
theorem c_X_stepOf (l : Launch) (dC : Nat → ClassId) (dI : Nat → Nat → Nat) (a b : Nat) (sz : Nat) (ha : a ≤ 64) (hb9 : b ≤ 64) : Met l yX1_stepOf wsX1_stepOf ({ frames := 1, cells := 0, slots := 0, locals := 40 }) (va_Pc [.int (nI a), .int (nI b)] (fun U => U.heap.size = sz)) (va_Qi (fun (r : Int32) (_ : Unit) => r = nI (max 1 (a / b))) (fun _ _ => True) (va_A [] sz)) 0 0 (va_A [] sz) := by
  refine Met.ofW (cc := cX1_stepOf) (maxL := 2) (ret := (some .int)) (by decide) rfl ?_
  intro p e s m args below meth c s₁ B hml hv
  obtain ⟨rfl, hsz⟩ := hv
  have hx := B.exec
  have hb := B.bytes
  have hr := B.returns
  have hts := atoms_spec (ws := wsX1_stepOf) B.pre
  have hown : s.vm.findClass RX1 = some m.cls := findClass_of_methodNamed B.named
  have hlocks := B.notSynchronized
  subst hsz
  have hP : va_P (dC, dI) vwCl [] s.heap := fun k q h => by simp at h
  have hD : va_D (va_A [] s.heap.size) [] := ⟨fun i j p q h => by simp at h, fun k q h => by simp at h⟩
  generalize hAe : va_A [] s.heap.size = A at hD ⊢
  have hA : ∀ q : Nat, s.heap.size ≤ q → A q := fun q h => by rw [← hAe]; exact Or.inr h
  have hS0 : ∀ H, s.heap = H → va_S A s.heap H [] := fun H h => by subst h; exact va_S.rf
  have hl := lv_entry ([.int (nI a), .int (nI b)]) (n := 2) (Nat.le_of_ble_eq_true rfl)
  rw [lg_entry_eq]
  generalize (lg_sl ([.int (nI a), .int (nI b)]) ++ List.replicate (2 - (lg_sl ([.int (nI a), .int (nI b)])).length) Slot.unset).toArray = ls at hl ⊢
  have hl : lv_has ls 2 [(0, .int (nI a)), (1, .int (nI b))] := hl
  generalize hHe : s.heap = H at hP ⊢
  have hS := hS0 H hHe
  refine lv_iload_n hx hb dX1_stepOf_0 rfl (lv_at hl 1 rfl) ?_
  refine lv_if_ne (tgt := 8) hx hb dX1_stepOf_1 (by decide) (fun c_1 => ?_) (fun c_1 => ?_)
  · skip
    replace c_1 : ¬ (b = 0) := fun h9 => c_1 ((nI_eq (a := b) (b := 0) (by omega) (by omega)).mpr h9)
    refine lv_iconst (v := nI 1) hx hb dX1_stepOf_8 (by decide) ?_
    refine lv_iload_n hx hb dX1_stepOf_9 rfl (lv_at hl 0 rfl) ?_
    refine lv_iload_n hx hb dX1_stepOf_10 rfl (lv_at hl 1 rfl) ?_
    refine lv_idiv hx hb dX1_stepOf_11 (nI_ne0 (by omega) (by omega)) ?_
    refine lv_topi (fun x_1 e_x_1 => ?_)
    have e_x_1 : x_1 = nI (a / b) := by rw [e_x_1]; exact pk_div (by omega) (by omega) (by omega)
    subst e_x_1
    have hdv9 := @ap_divle a b
    refine va_mmax hx hb (hml.trans hl.1.symm) hown (hts (.methodLink RX1 127 Lib.Math.max.name) (by decide +kernel)) (hts (.static Lib.Math.max.name) (by decide +kernel)) (hts (.initialized "java/lang/Math") (by decide +kernel)) (hts (.code Lib.Math.max.name Lib.Math.max.code 2 (some .int)) (by decide +kernel)) (Nat.le_of_ble_eq_true rfl) (Nat.le_of_ble_eq_true rfl) (Nat.zero_le _) (Nat.zero_le _) dX1_stepOf_12 ?_
    refine lv_topi (fun x_2 e_x_2 => ?_)
    have e_x_2 : x_2 = nI (max 1 (a / b)) := by rw [e_x_2]; exact ap_maxN (by omega) (by omega)
    subst e_x_2
    exact W.iret (v := nI (max 1 (a / b))) hx hb hr (fun t ht hW => ⟨⟨nI (max 1 (a / b)), (), rfl, rfl, trivial⟩, hS.F ht⟩) hS.2.2 dX1_stepOf_15
  · skip
    replace c_1 : b = 0 := (nI_eq (a := b) (b := 0) (by omega) (by omega)).mp c_1
    refine lv_iconst (v := nI 1) hx hb dX1_stepOf_4 (by decide) ?_
    refine lv_goto (tgt := 15) hx hb dX1_stepOf_5 (by decide) ?_
    exact W.iret (v := nI 1) hx hb hr (fun t ht hW => ⟨⟨nI 1, (), rfl, by rw [c_1, Nat.div_zero]; rfl, trivial⟩, hS.F ht⟩) hS.2.2 dX1_stepOf_15
set_option maxHeartbeats 4000000 in
set_option maxRecDepth 100000 in
theorem c_X_listNumbered (l : Launch) (dC : Nat → ClassId) (dI : Nat → Nat → Nat) (q : Nat → Nat) (ca : Nat → ClassId) (C : Nat) (L : Nat → List Int32) (f : Nat → Nat → Int32) (w d st : Nat → Int32) (tg : Nat) (hi mi go : Int32) (k : Nat) (sz : Nat) (hk1 : 1 ≤ k) (hk4 : k ≤ 4) (hf : fx_ok f L) : Met l yX1_listNumbered wsX1_listNumbered ({ frames := 0, cells := 0, slots := 0, locals := 0 }) (va_Pc [.ref (q 0), .int (nI k)] (fun U => U.heap.size = sz ∧ va_P (dC, dI) vwCl (cx q ca C L f w d st tg hi mi go) U.heap ∧ va_K (dC, dI) vwCl (kx ca) U ∧ va_D (fun _ => True) (cx q ca C L f w d st tg hi mi go))) (va_Qr (fun (_ : Unit) => True) (fun (_ : Unit) (a9 : Nat) (t9 : State) => a9 = q k ∧ at_X dC dI (va_A (cx q ca C L f w d st tg hi mi go) sz) q ca C (L, w, d, st, tg, hi, mi, go) t9) (va_A (cx q ca C L f w d st tg hi mi go) sz)) 0 0 (va_A (cx q ca C L f w d st tg hi mi go) sz) := by
  refine Met.ofW (cc := cX1_listNumbered) (maxL := 2) (ret := (some (.object "ArcCache$AddressList"))) (by decide) rfl ?_
  intro p e s m args below meth c s₁ B hml hv
  obtain ⟨rfl, hsz, hP, hK, hD0⟩ := hv
  have hx := B.exec
  have hb := B.bytes
  have hr := B.returns
  have hts := atoms_spec (ws := wsX1_listNumbered) B.pre
  have hown : s.vm.findClass RX1 = some m.cls := findClass_of_methodNamed B.named
  have hlocks := B.notSynchronized
  have hwX1 : ∀ w ∈ u_ws RX1 TX1 12, w ∈ wsX1_listNumbered := by decide +kernel
  subst hsz
  have hD := hD0.self (sz := s.heap.size)
  generalize hAe : va_A (cx q ca C L f w d st tg hi mi go) s.heap.size = A at hD ⊢
  have hA : ∀ q : Nat, s.heap.size ≤ q → A q := fun q h => by rw [← hAe]; exact Or.inr h
  have hS0 : ∀ H, s.heap = H → va_S A s.heap H [] := fun H h => by subst h; exact va_S.rf
  have hl := lv_entry ([.ref (q 0), .int (nI k)]) (n := 2) (Nat.le_of_ble_eq_true rfl)
  rw [lg_entry_eq]
  generalize (lg_sl ([.ref (q 0), .int (nI k)]) ++ List.replicate (2 - (lg_sl ([.ref (q 0), .int (nI k)])).length) Slot.unset).toArray = ls at hl ⊢
  have hl : lv_has ls 2 [(0, .ref (q 0)), (1, .int (nI k))] := hl
  generalize hHe : s.heap = H at hP ⊢
  have hS := hS0 H hHe
  refine lv_iload_n hx hb dX1_listNumbered_0 rfl (lv_at hl 1 rfl) ?_
  have hk9 : k = 1 ∨ k = 2 ∨ k = 3 ∨ k = 4 := by omega
  rcases hk9 with rfl | rfl | rfl | rfl
  · skip
    refine lv_tableIn (tgt := 28) (off := 27) hx hb dX1_listNumbered_1 (by decide) (by decide) (by decide) (by decide) ?_
    refine lv_aload_n hx hb dX1_listNumbered_28 rfl (lv_at hl 0 rfl) ?_
    refine va_get (D := (dC, dI)) (ci := 1) (v := .ref (q 1)) (C := RX1) (T := TX1) (N := 12) hx hb hts hwX1 hown hK hP 0 rfl rfl 1 (by decide) (hts (.fieldLink RX1 10 "ArcCache" "cameOnce" "LArcCache$AddressList;") (by decide +kernel)) (fun _ h9 => h9) rfl dX1_listNumbered_29 ?_
    exact W.aret (v := .ref (q 1)) hx hb hr (Or.inl ⟨_, rfl⟩) (Or.inr ⟨_, rfl⟩) (fun t ht hW => ⟨⟨(), q 1, rfl, trivial, rfl, f, hf, by rw [ht]; exact hP, va_K.moved hW.alike hK, hD⟩, hS.F ht⟩) hS.2.2 dX1_listNumbered_32
  · skip
    refine lv_tableIn (tgt := 33) (off := 32) hx hb dX1_listNumbered_1 (by decide) (by decide) (by decide) (by decide) ?_
    refine lv_aload_n hx hb dX1_listNumbered_33 rfl (lv_at hl 0 rfl) ?_
    refine va_get (D := (dC, dI)) (ci := 1) (v := .ref (q 2)) (C := RX1) (T := TX1) (N := 12) hx hb hts hwX1 hown hK hP 0 rfl rfl 2 (by decide) (hts (.fieldLink RX1 16 "ArcCache" "cameAgain" "LArcCache$AddressList;") (by decide +kernel)) (fun _ h9 => h9) rfl dX1_listNumbered_34 ?_
    exact W.aret (v := .ref (q 2)) hx hb hr (Or.inl ⟨_, rfl⟩) (Or.inr ⟨_, rfl⟩) (fun t ht hW => ⟨⟨(), q 2, rfl, trivial, rfl, f, hf, by rw [ht]; exact hP, va_K.moved hW.alike hK, hD⟩, hS.F ht⟩) hS.2.2 dX1_listNumbered_37
  · skip
    refine lv_tableIn (tgt := 38) (off := 37) hx hb dX1_listNumbered_1 (by decide) (by decide) (by decide) (by decide) ?_
    refine lv_aload_n hx hb dX1_listNumbered_38 rfl (lv_at hl 0 rfl) ?_
    refine va_get (D := (dC, dI)) (ci := 1) (v := .ref (q 3)) (C := RX1) (T := TX1) (N := 12) hx hb hts hwX1 hown hK hP 0 rfl rfl 3 (by decide) (hts (.fieldLink RX1 19 "ArcCache" "wentOnce" "LArcCache$AddressList;") (by decide +kernel)) (fun _ h9 => h9) rfl dX1_listNumbered_39 ?_
    exact W.aret (v := .ref (q 3)) hx hb hr (Or.inl ⟨_, rfl⟩) (Or.inr ⟨_, rfl⟩) (fun t ht hW => ⟨⟨(), q 3, rfl, trivial, rfl, f, hf, by rw [ht]; exact hP, va_K.moved hW.alike hK, hD⟩, hS.F ht⟩) hS.2.2 dX1_listNumbered_42
  · skip
    refine lv_tableOut (tgt := 43) hx hb dX1_listNumbered_1 (Or.inr (by decide)) (by decide) ?_
    refine lv_aload_n hx hb dX1_listNumbered_43 rfl (lv_at hl 0 rfl) ?_
    refine va_get (D := (dC, dI)) (ci := 1) (v := .ref (q 4)) (C := RX1) (T := TX1) (N := 12) hx hb hts hwX1 hown hK hP 0 rfl rfl 4 (by decide) (hts (.fieldLink RX1 22 "ArcCache" "wentAgain" "LArcCache$AddressList;") (by decide +kernel)) (fun _ h9 => h9) rfl dX1_listNumbered_44 ?_
    exact W.aret (v := .ref (q 4)) hx hb hr (Or.inl ⟨_, rfl⟩) (Or.inr ⟨_, rfl⟩) (fun t ht hW => ⟨⟨(), q 4, rfl, trivial, rfl, f, hf, by rw [ht]; exact hP, va_K.moved hW.alike hK, hD⟩, hS.F ht⟩) hS.2.2 dX1_listNumbered_47
set_option maxHeartbeats 4000000 in
set_option maxRecDepth 100000 in
theorem c_X_whichList (l : Launch) (dC : Nat → ClassId) (dI : Nat → Nat → Nat) (q : Nat → Nat) (ca : Nat → ClassId) (C : Nat) (L : Nat → List Int32) (f : Nat → Nat → Int32) (w d st : Nat → Int32) (tg : Nat) (hi mi go : Int32) (x : Int32) (sz : Nat) (hf : fx_ok f L) (hI : ap_inv L) (hz : ap_tot L ≤ 48) : Met l yX1_whichList wsX1_whichList ({ frames := 2, cells := 0, slots := 0, locals := 43 }) (va_Pc [.ref (q 0), .int x] (fun U => U.heap.size = sz ∧ va_P (dC, dI) vwCl (cx q ca C L f w d st tg hi mi go) U.heap ∧ va_K (dC, dI) vwCl (kx ca) U ∧ va_D (fun _ => True) (cx q ca C L f w d st tg hi mi go))) (va_Qi (fun (r : Int32) (u : ap_U) => r = nI (ap_wl L x) ∧ u = (L, w, d, st, tg, hi, mi, go)) (at_X dC dI (va_A (cx q ca C L f w d st tg hi mi go) sz) q ca C) (va_A (cx q ca C L f w d st tg hi mi go) sz)) 0 0 (va_A (cx q ca C L f w d st tg hi mi go) sz) := by
  refine Met.ofW (cc := cX1_whichList) (maxL := 3) (ret := (some .int)) (by decide) rfl ?_
  intro p e s m args below meth c s₁ B hml hv
  obtain ⟨rfl, hsz, hP, hK, hD0⟩ := hv
  have hx := B.exec
  have hb := B.bytes
  have hr := B.returns
  have hts := atoms_spec (ws := wsX1_whichList) B.pre
  have hown : s.vm.findClass RX1 = some m.cls := findClass_of_methodNamed B.named
  have hlocks := B.notSynchronized
  have hwX1 : ∀ w ∈ u_ws RX1 TX1 12, w ∈ wsX1_whichList := by decide +kernel
  subst hsz
  have hD := hD0.self (sz := s.heap.size)
  generalize hAe : va_A (cx q ca C L f w d st tg hi mi go) s.heap.size = A at hD ⊢
  have hA : ∀ q : Nat, s.heap.size ≤ q → A q := fun q h => by rw [← hAe]; exact Or.inr h
  have hS0 : ∀ H, s.heap = H → va_S A s.heap H [] := fun H h => by subst h; exact va_S.rf
  have hl := lv_entry ([.ref (q 0), .int x]) (n := 3) (Nat.le_of_ble_eq_true rfl)
  rw [lg_entry_eq]
  generalize (lg_sl ([.ref (q 0), .int x]) ++ List.replicate (3 - (lg_sl ([.ref (q 0), .int x])).length) Slot.unset).toArray = ls at hl ⊢
  have hl : lv_has ls 3 [(0, .ref (q 0)), (1, .int x)] := hl
  generalize hHe : s.heap = H at hP ⊢
  have hS := hS0 H hHe
  have z1 : (L 1).length ≤ 48 := by unfold ap_tot at hz; omega
  have z2 : (L 2).length ≤ 48 := by unfold ap_tot at hz; omega
  have z3 : (L 3).length ≤ 48 := by unfold ap_tot at hz; omega
  have z4 : (L 4).length ≤ 48 := by unfold ap_tot at hz; omega
  refine lv_iconst (v := nI 1) hx hb dX1_whichList_0 (by decide) ?_
  refine lv_istore_n (lv' := [(2, .int (nI 1)), (0, .ref (q 0)), (1, .int x)]) hx hb dX1_whichList_1 rfl hl (by decide) rfl (fun ls hl => ?_)
  refine lv_iload_n hx hb dX1_whichList_2 rfl (lv_at hl 0 rfl) ?_
  refine lv_iconst (v := nI 4) hx hb dX1_whichList_3 (by decide) ?_
  refine lv_icmp_gt (tgt := 27) hx hb dX1_whichList_4 (by decide) (fun c_4 => ?_) (fun c_4 => ?_)
  · skip
    replace c_4 : 4 < 1 := (nI_ltI (a := 4) (b := 1) (by omega) (by omega)).mp c_4
    exact absurd c_4 (by omega)
  · skip
    replace c_4 : ¬ (4 < 1) := fun h9 => c_4 ((nI_ltI (a := 4) (b := 1) (by omega) (by omega)).mpr h9)
    refine lv_aload_n hx hb dX1_whichList_7 rfl (lv_at hl 1 rfl) ?_
    refine lv_iload_n hx hb dX1_whichList_8 rfl (lv_at hl 0 rfl) ?_
    have hPc := hP.sub (ws' := (cx q ca C L f w d st tg hi mi go)) [0, 1, 2, 3, 4, 5, 6, 7, 8, 9, 10, 11] rfl
    have hDc := hD.sub (ws' := (cx q ca C L f w d st tg hi mi go)) [0, 1, 2, 3, 4, 5, 6, 7, 8, 9, 10, 11] (by decide) rfl
    have hKc := hK.sub (tys' := (kx ca)) [0, 1, 2, 3, 4, 5, 6] rfl
    have hFc := va_free (wc := (cx q ca C L f w d st tg hi mi go)) hD hS hA [0, 1, 2, 3, 4, 5, 6, 7, 8, 9, 10, 11] rfl
    refine va_callr (va_runV (As := [.int (nI 1)]) (rest := []) ⟨hx, hb, hml, hown, hts⟩ (c_X_listNumbered l dC dI q ca C L f w d st tg hi mi go 1 H.size (by decide) (by decide) hf) (cwV 1 hts gX1_whichList_X1_listNumbered rfl rfl rfl (by decide +kernel) ⟨Nat.le_of_ble_eq_true rfl, Nat.le_of_ble_eq_true rfl⟩) ⟨fun a U g mk q => by obtain ⟨q0, q1, qP, qK, qD⟩ := q; exact ⟨q0, q1, qP, va_K.moved (u := U) (U := U.calling g mk a) (Vm.Alike.refl U.vm) qK, qD⟩, va_recv hKc hPc (ci := 1) (q0 := 0) rfl rfl, fun U hU hW => ⟨rfl, by rw [hU], by rw [hU]; exact hPc, va_K.moved hW.alike hKc, hDc.weaken (fun _ _ _ _ => trivial)⟩⟩ rfl rfl hl.1 rfl (lv_room (Nat.le_of_ble_eq_true rfl)) dX1_whichList_9 ⟨Nat.le_of_ble_eq_true rfl, Nat.le_of_ble_eq_true rfl⟩) hS (fun q _ h => hFc q h) hFc (fun u ra t H1 locs ht hvm hw hB hz1 hk1 hS => ?_)
    obtain ⟨era, f1, hf1, hP1, hK1, hD1⟩ := hB
    rw [ht] at hP1
    subst era
    obtain ⟨f_1, ef_1⟩ : ∃ z, z = f1 := ⟨_, rfl⟩
    rw [← ef_1] at hf1 hP1 hD1
    clear ef_1 f1
    have hfx_2 := hf1
    obtain ⟨hP, hD⟩ := va_join (wr := []) (w1 := (cx q ca C L f_1 w d st tg hi mi go)) hP hD [0, 1, 2, 3, 4, 5, 6, 7, 8, 9, 10, 11] [] rfl rfl (by decide) (by decide) hk1 hFc hP1 hD1
    generalize H1 = H at hP hS ⊢
    replace hP : va_P (dC, dI) vwCl (cx q ca C L f_1 w d st tg hi mi go) H := hP
    replace hD : va_D A (cx q ca C L f_1 w d st tg hi mi go) := hD
    refine lv_iload_n hx hb dX1_whichList_12 rfl (lv_at hl 2 rfl) ?_
    have hPc := hP.sub (ws' := (cal (q 1) (q 5) (ca 1) ((L 1).length) (f_1 1))) [1, 2] rfl
    have hDc := hD.sub (ws' := (cal (q 1) (q 5) (ca 1) ((L 1).length) (f_1 1))) [1, 2] (by decide) rfl
    have hKc := hK.sub (tys' := (kal (ca 1))) [0] rfl
    have hFc := va_free (wc := (cal (q 1) (q 5) (ca 1) ((L 1).length) (f_1 1))) hD hS hA [1, 2] rfl
    refine va_calli (va_runV (As := [.int x]) (rest := []) ⟨hx, hb, hml, hown, hts⟩ (c_A_has l dC dI (q 1) (q 5) (ca 1) (L 1) (f_1 1) x H.size (Nat.le_trans z1 (by decide)) (hfx_2 1 (by decide) (by decide))) (cwV 1 hts gX1_whichList_X0_has rfl rfl rfl (by decide +kernel) ⟨Nat.le_of_ble_eq_true rfl, Nat.le_of_ble_eq_true rfl⟩) ⟨fun a U g mk q => by obtain ⟨q0, q1, qP, qK, qD⟩ := q; exact ⟨q0, q1, qP, va_K.moved (u := U) (U := U.calling g mk a) (Vm.Alike.refl U.vm) qK, qD⟩, va_recv hKc hPc (ci := 0) (q0 := 0) rfl rfl, fun U hU hW => ⟨rfl, by rw [hU], by rw [hU]; exact hPc, va_K.moved hW.alike hKc, hDc.weaken (fun _ _ _ _ => trivial)⟩⟩ rfl rfl hl.1 rfl (lv_room (Nat.le_of_ble_eq_true rfl)) dX1_whichList_13 ⟨Nat.le_of_ble_eq_true rfl, Nat.le_of_ble_eq_true rfl⟩) hS (fun q _ h => hFc q h) hFc (fun r u t H1 locs ht hvm hw hB hz1 hk1 hS => ?_)
    obtain ⟨n1, f1⟩ := u
    obtain ⟨hP1, hK1, hD1⟩ := hB
    rw [ht] at hP1
    try dsimp only at hw hP1 hD1
    obtain ⟨hr9, hu⟩ := hw
    cases hu
    obtain ⟨hP, hD⟩ := va_join (wr := [(q 0, .inr (1, [.int (nI C), .ref (q 1), .ref (q 2), .ref (q 3), .ref (q 4), .ref (q 9), .ref (q 10), .ref (q 11), .int (nI tg), .int hi, .int mi, .int go])), (q 2, .inr (0, [.ref (q 6), .int (nI ((L 2).length))])), (q 6, .inl (ca 2, 64, .inl (f_1 2))), (q 3, .inr (0, [.ref (q 7), .int (nI ((L 3).length))])), (q 7, .inl (ca 3, 64, .inl (f_1 3))), (q 4, .inr (0, [.ref (q 8), .int (nI ((L 4).length))])), (q 8, .inl (ca 4, 64, .inl (f_1 4))), (q 9, .inl (ca 5, 64, .inl w)), (q 10, .inl (ca 6, 64, .inl d)), (q 11, .inl (ca 7, 64, .inl st))]) (w1 := (cal (q 1) (q 5) (ca 1) ((L 1).length) (f_1 1))) hP hD [1, 2] [0, 3, 4, 5, 6, 7, 8, 9, 10, 11] rfl rfl (by decide) (by decide) hk1 hFc hP1 hD1
    generalize H1 = H at hP hS ⊢
    replace hP := hP.sub (ws' := (cx q ca C L f_1 w d st tg hi mi go)) [0, 10, 11, 1, 2, 3, 4, 5, 6, 7, 8, 9] rfl
    replace hD := hD.sub (ws' := (cx q ca C L f_1 w d st tg hi mi go)) [0, 10, 11, 1, 2, 3, 4, 5, 6, 7, 8, 9] (by decide) rfl
    by_cases hm_1 : x ∈ L 1
    · rw [if_pos hm_1] at hr9
      subst hr9
      refine lv_if_eq (tgt := 21) hx hb dX1_whichList_16 (by decide) (fun c_16 => ?_) (fun c_16 => ?_)
      · skip
        replace c_16 : 1 = 0 := (nI_eq (a := 1) (b := 0) (by omega) (by omega)).mp c_16
        exact absurd c_16 (by omega)
      · skip
        replace c_16 : ¬ (1 = 0) := fun h9 => c_16 ((nI_eq (a := 1) (b := 0) (by omega) (by omega)).mpr h9)
        refine lv_iload_n hx hb dX1_whichList_19 rfl (lv_at hl 0 rfl) ?_
        exact W.iret (v := nI 1) hx hb hr (fun t ht hW => ⟨⟨nI 1, (L, w, d, st, tg, hi, mi, go), rfl, ⟨by unfold ap_wl; rw [if_pos hm_1], rfl⟩, f_1, hfx_2, by rw [ht]; exact hP, va_K.moved hW.alike hK, hD⟩, hS.F ht⟩) hS.2.2 dX1_whichList_20
    · rw [if_neg hm_1] at hr9
      subst hr9
      refine lv_if_eq (tgt := 21) hx hb dX1_whichList_16 (by decide) (fun c_16 => ?_) (fun c_16 => ?_)
      · skip
        replace c_16 : 0 = 0 := (nI_eq (a := 0) (b := 0) (by omega) (by omega)).mp c_16
        refine lv_iinc (v := nI 2) (lv' := [(2, .int (nI 2)), (0, .ref (q 0)), (1, .int x)]) hx hb dX1_whichList_21 hl (k := 0) rfl (by decide) (by decide) rfl (fun ls hl => ?_)
        refine lv_goto (tgt := 2) hx hb dX1_whichList_24 (by decide) ?_
        refine lv_iload_n hx hb dX1_whichList_2 rfl (lv_at hl 0 rfl) ?_
        refine lv_iconst (v := nI 4) hx hb dX1_whichList_3 (by decide) ?_
        refine lv_icmp_gt (tgt := 27) hx hb dX1_whichList_4 (by decide) (fun c_4_1 => ?_) (fun c_4_1 => ?_)
        · skip
          replace c_4_1 : 4 < 2 := (nI_ltI (a := 4) (b := 2) (by omega) (by omega)).mp c_4_1
          exact absurd c_4_1 (by omega)
        · skip
          replace c_4_1 : ¬ (4 < 2) := fun h9 => c_4_1 ((nI_ltI (a := 4) (b := 2) (by omega) (by omega)).mpr h9)
          refine lv_aload_n hx hb dX1_whichList_7 rfl (lv_at hl 1 rfl) ?_
          refine lv_iload_n hx hb dX1_whichList_8 rfl (lv_at hl 0 rfl) ?_
          have hPc := hP.sub (ws' := (cx q ca C L f_1 w d st tg hi mi go)) [0, 1, 2, 3, 4, 5, 6, 7, 8, 9, 10, 11] rfl
          have hDc := hD.sub (ws' := (cx q ca C L f_1 w d st tg hi mi go)) [0, 1, 2, 3, 4, 5, 6, 7, 8, 9, 10, 11] (by decide) rfl
          have hKc := hK.sub (tys' := (kx ca)) [0, 1, 2, 3, 4, 5, 6] rfl
          have hFc := va_free (wc := (cx q ca C L f_1 w d st tg hi mi go)) hD hS hA [0, 1, 2, 3, 4, 5, 6, 7, 8, 9, 10, 11] rfl
          refine va_callr (va_runV (As := [.int (nI 2)]) (rest := []) ⟨hx, hb, hml, hown, hts⟩ (c_X_listNumbered l dC dI q ca C L f_1 w d st tg hi mi go 2 H.size (by decide) (by decide) hfx_2) (cwV 1 hts gX1_whichList_X1_listNumbered rfl rfl rfl (by decide +kernel) ⟨Nat.le_of_ble_eq_true rfl, Nat.le_of_ble_eq_true rfl⟩) ⟨fun a U g mk q => by obtain ⟨q0, q1, qP, qK, qD⟩ := q; exact ⟨q0, q1, qP, va_K.moved (u := U) (U := U.calling g mk a) (Vm.Alike.refl U.vm) qK, qD⟩, va_recv hKc hPc (ci := 1) (q0 := 0) rfl rfl, fun U hU hW => ⟨rfl, by rw [hU], by rw [hU]; exact hPc, va_K.moved hW.alike hKc, hDc.weaken (fun _ _ _ _ => trivial)⟩⟩ rfl rfl hl.1 rfl (lv_room (Nat.le_of_ble_eq_true rfl)) dX1_whichList_9 ⟨Nat.le_of_ble_eq_true rfl, Nat.le_of_ble_eq_true rfl⟩) hS (fun q _ h => hFc q h) hFc (fun u ra t H1 locs ht hvm hw hB hz1 hk1 hS => ?_)
          obtain ⟨era, f1, hf1, hP1, hK1, hD1⟩ := hB
          rw [ht] at hP1
          subst era
          obtain ⟨f_3, ef_3⟩ : ∃ z, z = f1 := ⟨_, rfl⟩
          rw [← ef_3] at hf1 hP1 hD1
          clear ef_3 f1
          have hfx_4 := hf1
          obtain ⟨hP, hD⟩ := va_join (wr := []) (w1 := (cx q ca C L f_3 w d st tg hi mi go)) hP hD [0, 1, 2, 3, 4, 5, 6, 7, 8, 9, 10, 11] [] rfl rfl (by decide) (by decide) hk1 hFc hP1 hD1
          generalize H1 = H at hP hS ⊢
          replace hP : va_P (dC, dI) vwCl (cx q ca C L f_3 w d st tg hi mi go) H := hP
          replace hD : va_D A (cx q ca C L f_3 w d st tg hi mi go) := hD
          refine lv_iload_n hx hb dX1_whichList_12 rfl (lv_at hl 2 rfl) ?_
          have hPc := hP.sub (ws' := (cal (q 2) (q 6) (ca 2) ((L 2).length) (f_3 2))) [3, 4] rfl
          have hDc := hD.sub (ws' := (cal (q 2) (q 6) (ca 2) ((L 2).length) (f_3 2))) [3, 4] (by decide) rfl
          have hKc := hK.sub (tys' := (kal (ca 2))) [1] rfl
          have hFc := va_free (wc := (cal (q 2) (q 6) (ca 2) ((L 2).length) (f_3 2))) hD hS hA [3, 4] rfl
          refine va_calli (va_runV (As := [.int x]) (rest := []) ⟨hx, hb, hml, hown, hts⟩ (c_A_has l dC dI (q 2) (q 6) (ca 2) (L 2) (f_3 2) x H.size (Nat.le_trans z2 (by decide)) (hfx_4 2 (by decide) (by decide))) (cwV 1 hts gX1_whichList_X0_has rfl rfl rfl (by decide +kernel) ⟨Nat.le_of_ble_eq_true rfl, Nat.le_of_ble_eq_true rfl⟩) ⟨fun a U g mk q => by obtain ⟨q0, q1, qP, qK, qD⟩ := q; exact ⟨q0, q1, qP, va_K.moved (u := U) (U := U.calling g mk a) (Vm.Alike.refl U.vm) qK, qD⟩, va_recv hKc hPc (ci := 0) (q0 := 0) rfl rfl, fun U hU hW => ⟨rfl, by rw [hU], by rw [hU]; exact hPc, va_K.moved hW.alike hKc, hDc.weaken (fun _ _ _ _ => trivial)⟩⟩ rfl rfl hl.1 rfl (lv_room (Nat.le_of_ble_eq_true rfl)) dX1_whichList_13 ⟨Nat.le_of_ble_eq_true rfl, Nat.le_of_ble_eq_true rfl⟩) hS (fun q _ h => hFc q h) hFc (fun r u t H1 locs ht hvm hw hB hz1 hk1 hS => ?_)
          obtain ⟨n1, f1⟩ := u
          obtain ⟨hP1, hK1, hD1⟩ := hB
          rw [ht] at hP1
          try dsimp only at hw hP1 hD1
          obtain ⟨hr9, hu⟩ := hw
          cases hu
          obtain ⟨hP, hD⟩ := va_join (wr := [(q 0, .inr (1, [.int (nI C), .ref (q 1), .ref (q 2), .ref (q 3), .ref (q 4), .ref (q 9), .ref (q 10), .ref (q 11), .int (nI tg), .int hi, .int mi, .int go])), (q 1, .inr (0, [.ref (q 5), .int (nI ((L 1).length))])), (q 5, .inl (ca 1, 64, .inl (f_3 1))), (q 3, .inr (0, [.ref (q 7), .int (nI ((L 3).length))])), (q 7, .inl (ca 3, 64, .inl (f_3 3))), (q 4, .inr (0, [.ref (q 8), .int (nI ((L 4).length))])), (q 8, .inl (ca 4, 64, .inl (f_3 4))), (q 9, .inl (ca 5, 64, .inl w)), (q 10, .inl (ca 6, 64, .inl d)), (q 11, .inl (ca 7, 64, .inl st))]) (w1 := (cal (q 2) (q 6) (ca 2) ((L 2).length) (f_3 2))) hP hD [3, 4] [0, 1, 2, 5, 6, 7, 8, 9, 10, 11] rfl rfl (by decide) (by decide) hk1 hFc hP1 hD1
          generalize H1 = H at hP hS ⊢
          replace hP := hP.sub (ws' := (cx q ca C L f_3 w d st tg hi mi go)) [0, 1, 2, 10, 11, 3, 4, 5, 6, 7, 8, 9] rfl
          replace hD := hD.sub (ws' := (cx q ca C L f_3 w d st tg hi mi go)) [0, 1, 2, 10, 11, 3, 4, 5, 6, 7, 8, 9] (by decide) rfl
          by_cases hm_2 : x ∈ L 2
          · rw [if_pos hm_2] at hr9
            subst hr9
            refine lv_if_eq (tgt := 21) hx hb dX1_whichList_16 (by decide) (fun c_16_1 => ?_) (fun c_16_1 => ?_)
            · skip
              replace c_16_1 : 1 = 0 := (nI_eq (a := 1) (b := 0) (by omega) (by omega)).mp c_16_1
              exact absurd c_16_1 (by omega)
            · skip
              replace c_16_1 : ¬ (1 = 0) := fun h9 => c_16_1 ((nI_eq (a := 1) (b := 0) (by omega) (by omega)).mpr h9)
              refine lv_iload_n hx hb dX1_whichList_19 rfl (lv_at hl 0 rfl) ?_
              exact W.iret (v := nI 2) hx hb hr (fun t ht hW => ⟨⟨nI 2, (L, w, d, st, tg, hi, mi, go), rfl, ⟨by unfold ap_wl; rw [if_neg hm_1, if_pos hm_2], rfl⟩, f_3, hfx_4, by rw [ht]; exact hP, va_K.moved hW.alike hK, hD⟩, hS.F ht⟩) hS.2.2 dX1_whichList_20
          · rw [if_neg hm_2] at hr9
            subst hr9
            refine lv_if_eq (tgt := 21) hx hb dX1_whichList_16 (by decide) (fun c_16_1 => ?_) (fun c_16_1 => ?_)
            · skip
              replace c_16_1 : 0 = 0 := (nI_eq (a := 0) (b := 0) (by omega) (by omega)).mp c_16_1
              refine lv_iinc (v := nI 3) (lv' := [(2, .int (nI 3)), (0, .ref (q 0)), (1, .int x)]) hx hb dX1_whichList_21 hl (k := 0) rfl (by decide) (by decide) rfl (fun ls hl => ?_)
              refine lv_goto (tgt := 2) hx hb dX1_whichList_24 (by decide) ?_
              refine lv_iload_n hx hb dX1_whichList_2 rfl (lv_at hl 0 rfl) ?_
              refine lv_iconst (v := nI 4) hx hb dX1_whichList_3 (by decide) ?_
              refine lv_icmp_gt (tgt := 27) hx hb dX1_whichList_4 (by decide) (fun c_4_2 => ?_) (fun c_4_2 => ?_)
              · skip
                replace c_4_2 : 4 < 3 := (nI_ltI (a := 4) (b := 3) (by omega) (by omega)).mp c_4_2
                exact absurd c_4_2 (by omega)
              · skip
                replace c_4_2 : ¬ (4 < 3) := fun h9 => c_4_2 ((nI_ltI (a := 4) (b := 3) (by omega) (by omega)).mpr h9)
                refine lv_aload_n hx hb dX1_whichList_7 rfl (lv_at hl 1 rfl) ?_
                refine lv_iload_n hx hb dX1_whichList_8 rfl (lv_at hl 0 rfl) ?_
                have hPc := hP.sub (ws' := (cx q ca C L f_3 w d st tg hi mi go)) [0, 1, 2, 3, 4, 5, 6, 7, 8, 9, 10, 11] rfl
                have hDc := hD.sub (ws' := (cx q ca C L f_3 w d st tg hi mi go)) [0, 1, 2, 3, 4, 5, 6, 7, 8, 9, 10, 11] (by decide) rfl
                have hKc := hK.sub (tys' := (kx ca)) [0, 1, 2, 3, 4, 5, 6] rfl
                have hFc := va_free (wc := (cx q ca C L f_3 w d st tg hi mi go)) hD hS hA [0, 1, 2, 3, 4, 5, 6, 7, 8, 9, 10, 11] rfl
                refine va_callr (va_runV (As := [.int (nI 3)]) (rest := []) ⟨hx, hb, hml, hown, hts⟩ (c_X_listNumbered l dC dI q ca C L f_3 w d st tg hi mi go 3 H.size (by decide) (by decide) hfx_4) (cwV 1 hts gX1_whichList_X1_listNumbered rfl rfl rfl (by decide +kernel) ⟨Nat.le_of_ble_eq_true rfl, Nat.le_of_ble_eq_true rfl⟩) ⟨fun a U g mk q => by obtain ⟨q0, q1, qP, qK, qD⟩ := q; exact ⟨q0, q1, qP, va_K.moved (u := U) (U := U.calling g mk a) (Vm.Alike.refl U.vm) qK, qD⟩, va_recv hKc hPc (ci := 1) (q0 := 0) rfl rfl, fun U hU hW => ⟨rfl, by rw [hU], by rw [hU]; exact hPc, va_K.moved hW.alike hKc, hDc.weaken (fun _ _ _ _ => trivial)⟩⟩ rfl rfl hl.1 rfl (lv_room (Nat.le_of_ble_eq_true rfl)) dX1_whichList_9 ⟨Nat.le_of_ble_eq_true rfl, Nat.le_of_ble_eq_true rfl⟩) hS (fun q _ h => hFc q h) hFc (fun u ra t H1 locs ht hvm hw hB hz1 hk1 hS => ?_)
                obtain ⟨era, f1, hf1, hP1, hK1, hD1⟩ := hB
                rw [ht] at hP1
                subst era
                obtain ⟨f_5, ef_5⟩ : ∃ z, z = f1 := ⟨_, rfl⟩
                rw [← ef_5] at hf1 hP1 hD1
                clear ef_5 f1
                have hfx_6 := hf1
                obtain ⟨hP, hD⟩ := va_join (wr := []) (w1 := (cx q ca C L f_5 w d st tg hi mi go)) hP hD [0, 1, 2, 3, 4, 5, 6, 7, 8, 9, 10, 11] [] rfl rfl (by decide) (by decide) hk1 hFc hP1 hD1
                generalize H1 = H at hP hS ⊢
                replace hP : va_P (dC, dI) vwCl (cx q ca C L f_5 w d st tg hi mi go) H := hP
                replace hD : va_D A (cx q ca C L f_5 w d st tg hi mi go) := hD
                refine lv_iload_n hx hb dX1_whichList_12 rfl (lv_at hl 2 rfl) ?_
                have hPc := hP.sub (ws' := (cal (q 3) (q 7) (ca 3) ((L 3).length) (f_5 3))) [5, 6] rfl
                have hDc := hD.sub (ws' := (cal (q 3) (q 7) (ca 3) ((L 3).length) (f_5 3))) [5, 6] (by decide) rfl
                have hKc := hK.sub (tys' := (kal (ca 3))) [2] rfl
                have hFc := va_free (wc := (cal (q 3) (q 7) (ca 3) ((L 3).length) (f_5 3))) hD hS hA [5, 6] rfl
                refine va_calli (va_runV (As := [.int x]) (rest := []) ⟨hx, hb, hml, hown, hts⟩ (c_A_has l dC dI (q 3) (q 7) (ca 3) (L 3) (f_5 3) x H.size (Nat.le_trans z3 (by decide)) (hfx_6 3 (by decide) (by decide))) (cwV 1 hts gX1_whichList_X0_has rfl rfl rfl (by decide +kernel) ⟨Nat.le_of_ble_eq_true rfl, Nat.le_of_ble_eq_true rfl⟩) ⟨fun a U g mk q => by obtain ⟨q0, q1, qP, qK, qD⟩ := q; exact ⟨q0, q1, qP, va_K.moved (u := U) (U := U.calling g mk a) (Vm.Alike.refl U.vm) qK, qD⟩, va_recv hKc hPc (ci := 0) (q0 := 0) rfl rfl, fun U hU hW => ⟨rfl, by rw [hU], by rw [hU]; exact hPc, va_K.moved hW.alike hKc, hDc.weaken (fun _ _ _ _ => trivial)⟩⟩ rfl rfl hl.1 rfl (lv_room (Nat.le_of_ble_eq_true rfl)) dX1_whichList_13 ⟨Nat.le_of_ble_eq_true rfl, Nat.le_of_ble_eq_true rfl⟩) hS (fun q _ h => hFc q h) hFc (fun r u t H1 locs ht hvm hw hB hz1 hk1 hS => ?_)
                obtain ⟨n1, f1⟩ := u
                obtain ⟨hP1, hK1, hD1⟩ := hB
                rw [ht] at hP1
                try dsimp only at hw hP1 hD1
                obtain ⟨hr9, hu⟩ := hw
                cases hu
                obtain ⟨hP, hD⟩ := va_join (wr := [(q 0, .inr (1, [.int (nI C), .ref (q 1), .ref (q 2), .ref (q 3), .ref (q 4), .ref (q 9), .ref (q 10), .ref (q 11), .int (nI tg), .int hi, .int mi, .int go])), (q 1, .inr (0, [.ref (q 5), .int (nI ((L 1).length))])), (q 5, .inl (ca 1, 64, .inl (f_5 1))), (q 2, .inr (0, [.ref (q 6), .int (nI ((L 2).length))])), (q 6, .inl (ca 2, 64, .inl (f_5 2))), (q 4, .inr (0, [.ref (q 8), .int (nI ((L 4).length))])), (q 8, .inl (ca 4, 64, .inl (f_5 4))), (q 9, .inl (ca 5, 64, .inl w)), (q 10, .inl (ca 6, 64, .inl d)), (q 11, .inl (ca 7, 64, .inl st))]) (w1 := (cal (q 3) (q 7) (ca 3) ((L 3).length) (f_5 3))) hP hD [5, 6] [0, 1, 2, 3, 4, 7, 8, 9, 10, 11] rfl rfl (by decide) (by decide) hk1 hFc hP1 hD1
                generalize H1 = H at hP hS ⊢
                replace hP := hP.sub (ws' := (cx q ca C L f_5 w d st tg hi mi go)) [0, 1, 2, 3, 4, 10, 11, 5, 6, 7, 8, 9] rfl
                replace hD := hD.sub (ws' := (cx q ca C L f_5 w d st tg hi mi go)) [0, 1, 2, 3, 4, 10, 11, 5, 6, 7, 8, 9] (by decide) rfl
                by_cases hm_3 : x ∈ L 3
                · rw [if_pos hm_3] at hr9
                  subst hr9
                  refine lv_if_eq (tgt := 21) hx hb dX1_whichList_16 (by decide) (fun c_16_2 => ?_) (fun c_16_2 => ?_)
                  · skip
                    replace c_16_2 : 1 = 0 := (nI_eq (a := 1) (b := 0) (by omega) (by omega)).mp c_16_2
                    exact absurd c_16_2 (by omega)
                  · skip
                    replace c_16_2 : ¬ (1 = 0) := fun h9 => c_16_2 ((nI_eq (a := 1) (b := 0) (by omega) (by omega)).mpr h9)
                    refine lv_iload_n hx hb dX1_whichList_19 rfl (lv_at hl 0 rfl) ?_
                    exact W.iret (v := nI 3) hx hb hr (fun t ht hW => ⟨⟨nI 3, (L, w, d, st, tg, hi, mi, go), rfl, ⟨by unfold ap_wl; rw [if_neg hm_1, if_neg hm_2, if_pos hm_3], rfl⟩, f_5, hfx_6, by rw [ht]; exact hP, va_K.moved hW.alike hK, hD⟩, hS.F ht⟩) hS.2.2 dX1_whichList_20
                · rw [if_neg hm_3] at hr9
                  subst hr9
                  refine lv_if_eq (tgt := 21) hx hb dX1_whichList_16 (by decide) (fun c_16_2 => ?_) (fun c_16_2 => ?_)
                  · skip
                    replace c_16_2 : 0 = 0 := (nI_eq (a := 0) (b := 0) (by omega) (by omega)).mp c_16_2
                    refine lv_iinc (v := nI 4) (lv' := [(2, .int (nI 4)), (0, .ref (q 0)), (1, .int x)]) hx hb dX1_whichList_21 hl (k := 0) rfl (by decide) (by decide) rfl (fun ls hl => ?_)
                    refine lv_goto (tgt := 2) hx hb dX1_whichList_24 (by decide) ?_
                    refine lv_iload_n hx hb dX1_whichList_2 rfl (lv_at hl 0 rfl) ?_
                    refine lv_iconst (v := nI 4) hx hb dX1_whichList_3 (by decide) ?_
                    refine lv_icmp_gt (tgt := 27) hx hb dX1_whichList_4 (by decide) (fun c_4_3 => ?_) (fun c_4_3 => ?_)
                    · skip
                      replace c_4_3 : 4 < 4 := (nI_ltI (a := 4) (b := 4) (by omega) (by omega)).mp c_4_3
                      exact absurd c_4_3 (by omega)
                    · skip
                      replace c_4_3 : ¬ (4 < 4) := fun h9 => c_4_3 ((nI_ltI (a := 4) (b := 4) (by omega) (by omega)).mpr h9)
                      refine lv_aload_n hx hb dX1_whichList_7 rfl (lv_at hl 1 rfl) ?_
                      refine lv_iload_n hx hb dX1_whichList_8 rfl (lv_at hl 0 rfl) ?_
                      have hPc := hP.sub (ws' := (cx q ca C L f_5 w d st tg hi mi go)) [0, 1, 2, 3, 4, 5, 6, 7, 8, 9, 10, 11] rfl
                      have hDc := hD.sub (ws' := (cx q ca C L f_5 w d st tg hi mi go)) [0, 1, 2, 3, 4, 5, 6, 7, 8, 9, 10, 11] (by decide) rfl
                      have hKc := hK.sub (tys' := (kx ca)) [0, 1, 2, 3, 4, 5, 6] rfl
                      have hFc := va_free (wc := (cx q ca C L f_5 w d st tg hi mi go)) hD hS hA [0, 1, 2, 3, 4, 5, 6, 7, 8, 9, 10, 11] rfl
                      refine va_callr (va_runV (As := [.int (nI 4)]) (rest := []) ⟨hx, hb, hml, hown, hts⟩ (c_X_listNumbered l dC dI q ca C L f_5 w d st tg hi mi go 4 H.size (by decide) (by decide) hfx_6) (cwV 1 hts gX1_whichList_X1_listNumbered rfl rfl rfl (by decide +kernel) ⟨Nat.le_of_ble_eq_true rfl, Nat.le_of_ble_eq_true rfl⟩) ⟨fun a U g mk q => by obtain ⟨q0, q1, qP, qK, qD⟩ := q; exact ⟨q0, q1, qP, va_K.moved (u := U) (U := U.calling g mk a) (Vm.Alike.refl U.vm) qK, qD⟩, va_recv hKc hPc (ci := 1) (q0 := 0) rfl rfl, fun U hU hW => ⟨rfl, by rw [hU], by rw [hU]; exact hPc, va_K.moved hW.alike hKc, hDc.weaken (fun _ _ _ _ => trivial)⟩⟩ rfl rfl hl.1 rfl (lv_room (Nat.le_of_ble_eq_true rfl)) dX1_whichList_9 ⟨Nat.le_of_ble_eq_true rfl, Nat.le_of_ble_eq_true rfl⟩) hS (fun q _ h => hFc q h) hFc (fun u ra t H1 locs ht hvm hw hB hz1 hk1 hS => ?_)
                      obtain ⟨era, f1, hf1, hP1, hK1, hD1⟩ := hB
                      rw [ht] at hP1
                      subst era
                      obtain ⟨f_7, ef_7⟩ : ∃ z, z = f1 := ⟨_, rfl⟩
                      rw [← ef_7] at hf1 hP1 hD1
                      clear ef_7 f1
                      have hfx_8 := hf1
                      obtain ⟨hP, hD⟩ := va_join (wr := []) (w1 := (cx q ca C L f_7 w d st tg hi mi go)) hP hD [0, 1, 2, 3, 4, 5, 6, 7, 8, 9, 10, 11] [] rfl rfl (by decide) (by decide) hk1 hFc hP1 hD1
                      generalize H1 = H at hP hS ⊢
                      replace hP : va_P (dC, dI) vwCl (cx q ca C L f_7 w d st tg hi mi go) H := hP
                      replace hD : va_D A (cx q ca C L f_7 w d st tg hi mi go) := hD
                      refine lv_iload_n hx hb dX1_whichList_12 rfl (lv_at hl 2 rfl) ?_
                      have hPc := hP.sub (ws' := (cal (q 4) (q 8) (ca 4) ((L 4).length) (f_7 4))) [7, 8] rfl
                      have hDc := hD.sub (ws' := (cal (q 4) (q 8) (ca 4) ((L 4).length) (f_7 4))) [7, 8] (by decide) rfl
                      have hKc := hK.sub (tys' := (kal (ca 4))) [3] rfl
                      have hFc := va_free (wc := (cal (q 4) (q 8) (ca 4) ((L 4).length) (f_7 4))) hD hS hA [7, 8] rfl
                      refine va_calli (va_runV (As := [.int x]) (rest := []) ⟨hx, hb, hml, hown, hts⟩ (c_A_has l dC dI (q 4) (q 8) (ca 4) (L 4) (f_7 4) x H.size (Nat.le_trans z4 (by decide)) (hfx_8 4 (by decide) (by decide))) (cwV 1 hts gX1_whichList_X0_has rfl rfl rfl (by decide +kernel) ⟨Nat.le_of_ble_eq_true rfl, Nat.le_of_ble_eq_true rfl⟩) ⟨fun a U g mk q => by obtain ⟨q0, q1, qP, qK, qD⟩ := q; exact ⟨q0, q1, qP, va_K.moved (u := U) (U := U.calling g mk a) (Vm.Alike.refl U.vm) qK, qD⟩, va_recv hKc hPc (ci := 0) (q0 := 0) rfl rfl, fun U hU hW => ⟨rfl, by rw [hU], by rw [hU]; exact hPc, va_K.moved hW.alike hKc, hDc.weaken (fun _ _ _ _ => trivial)⟩⟩ rfl rfl hl.1 rfl (lv_room (Nat.le_of_ble_eq_true rfl)) dX1_whichList_13 ⟨Nat.le_of_ble_eq_true rfl, Nat.le_of_ble_eq_true rfl⟩) hS (fun q _ h => hFc q h) hFc (fun r u t H1 locs ht hvm hw hB hz1 hk1 hS => ?_)
                      obtain ⟨n1, f1⟩ := u
                      obtain ⟨hP1, hK1, hD1⟩ := hB
                      rw [ht] at hP1
                      try dsimp only at hw hP1 hD1
                      obtain ⟨hr9, hu⟩ := hw
                      cases hu
                      obtain ⟨hP, hD⟩ := va_join (wr := [(q 0, .inr (1, [.int (nI C), .ref (q 1), .ref (q 2), .ref (q 3), .ref (q 4), .ref (q 9), .ref (q 10), .ref (q 11), .int (nI tg), .int hi, .int mi, .int go])), (q 1, .inr (0, [.ref (q 5), .int (nI ((L 1).length))])), (q 5, .inl (ca 1, 64, .inl (f_7 1))), (q 2, .inr (0, [.ref (q 6), .int (nI ((L 2).length))])), (q 6, .inl (ca 2, 64, .inl (f_7 2))), (q 3, .inr (0, [.ref (q 7), .int (nI ((L 3).length))])), (q 7, .inl (ca 3, 64, .inl (f_7 3))), (q 9, .inl (ca 5, 64, .inl w)), (q 10, .inl (ca 6, 64, .inl d)), (q 11, .inl (ca 7, 64, .inl st))]) (w1 := (cal (q 4) (q 8) (ca 4) ((L 4).length) (f_7 4))) hP hD [7, 8] [0, 1, 2, 3, 4, 5, 6, 9, 10, 11] rfl rfl (by decide) (by decide) hk1 hFc hP1 hD1
                      generalize H1 = H at hP hS ⊢
                      replace hP := hP.sub (ws' := (cx q ca C L f_7 w d st tg hi mi go)) [0, 1, 2, 3, 4, 5, 6, 10, 11, 7, 8, 9] rfl
                      replace hD := hD.sub (ws' := (cx q ca C L f_7 w d st tg hi mi go)) [0, 1, 2, 3, 4, 5, 6, 10, 11, 7, 8, 9] (by decide) rfl
                      by_cases hm_4 : x ∈ L 4
                      · rw [if_pos hm_4] at hr9
                        subst hr9
                        refine lv_if_eq (tgt := 21) hx hb dX1_whichList_16 (by decide) (fun c_16_3 => ?_) (fun c_16_3 => ?_)
                        · skip
                          replace c_16_3 : 1 = 0 := (nI_eq (a := 1) (b := 0) (by omega) (by omega)).mp c_16_3
                          exact absurd c_16_3 (by omega)
                        · skip
                          replace c_16_3 : ¬ (1 = 0) := fun h9 => c_16_3 ((nI_eq (a := 1) (b := 0) (by omega) (by omega)).mpr h9)
                          refine lv_iload_n hx hb dX1_whichList_19 rfl (lv_at hl 0 rfl) ?_
                          exact W.iret (v := nI 4) hx hb hr (fun t ht hW => ⟨⟨nI 4, (L, w, d, st, tg, hi, mi, go), rfl, ⟨by unfold ap_wl; rw [if_neg hm_1, if_neg hm_2, if_neg hm_3, if_pos hm_4], rfl⟩, f_7, hfx_8, by rw [ht]; exact hP, va_K.moved hW.alike hK, hD⟩, hS.F ht⟩) hS.2.2 dX1_whichList_20
                      · rw [if_neg hm_4] at hr9
                        subst hr9
                        refine lv_if_eq (tgt := 21) hx hb dX1_whichList_16 (by decide) (fun c_16_3 => ?_) (fun c_16_3 => ?_)
                        · skip
                          replace c_16_3 : 0 = 0 := (nI_eq (a := 0) (b := 0) (by omega) (by omega)).mp c_16_3
                          refine lv_iinc (v := nI 5) (lv' := [(2, .int (nI 5)), (0, .ref (q 0)), (1, .int x)]) hx hb dX1_whichList_21 hl (k := 0) rfl (by decide) (by decide) rfl (fun ls hl => ?_)
                          refine lv_goto (tgt := 2) hx hb dX1_whichList_24 (by decide) ?_
                          refine lv_iload_n hx hb dX1_whichList_2 rfl (lv_at hl 0 rfl) ?_
                          refine lv_iconst (v := nI 4) hx hb dX1_whichList_3 (by decide) ?_
                          refine lv_icmp_gt (tgt := 27) hx hb dX1_whichList_4 (by decide) (fun c_4_4 => ?_) (fun c_4_4 => ?_)
                          · skip
                            replace c_4_4 : 4 < 5 := (nI_ltI (a := 4) (b := 5) (by omega) (by omega)).mp c_4_4
                            refine lv_iconst (v := nI 0) hx hb dX1_whichList_27 (by decide) ?_
                            exact W.iret (v := nI 0) hx hb hr (fun t ht hW => ⟨⟨nI 0, (L, w, d, st, tg, hi, mi, go), rfl, ⟨by unfold ap_wl; rw [if_neg hm_1, if_neg hm_2, if_neg hm_3, if_neg hm_4], rfl⟩, f_7, hfx_8, by rw [ht]; exact hP, va_K.moved hW.alike hK, hD⟩, hS.F ht⟩) hS.2.2 dX1_whichList_28
                          · skip
                            replace c_4_4 : ¬ (4 < 5) := fun h9 => c_4_4 ((nI_ltI (a := 4) (b := 5) (by omega) (by omega)).mpr h9)
                            exact absurd c_4_4 (by omega)
                        · skip
                          replace c_16_3 : ¬ (0 = 0) := fun h9 => c_16_3 ((nI_eq (a := 0) (b := 0) (by omega) (by omega)).mpr h9)
                          exact absurd c_16_3 (by omega)
                  · skip
                    replace c_16_2 : ¬ (0 = 0) := fun h9 => c_16_2 ((nI_eq (a := 0) (b := 0) (by omega) (by omega)).mpr h9)
                    exact absurd c_16_2 (by omega)
            · skip
              replace c_16_1 : ¬ (0 = 0) := fun h9 => c_16_1 ((nI_eq (a := 0) (b := 0) (by omega) (by omega)).mpr h9)
              exact absurd c_16_1 (by omega)
      · skip
        replace c_16 : ¬ (0 = 0) := fun h9 => c_16 ((nI_eq (a := 0) (b := 0) (by omega) (by omega)).mpr h9)
        exact absurd c_16 (by omega)
