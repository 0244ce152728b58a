-- THE REFERENCE, first part (laid by wip/gen/mm.py)
def ap_leave (L : Nat → List Int32) (x : Int32) : Nat → List Int32 := if ap_wl L x = 0 then L else va_up L (ap_wl L x) (ap_rm x (L (ap_wl L x)))
theorem ap_leave_0 {L : Nat → List Int32} {x : Int32} (h : ap_wl L x = 0) : ap_leave L x = L := by
  unfold ap_leave
  rw [if_pos h]
theorem ap_leave_1 {L : Nat → List Int32} {x : Int32} {k : Nat} (h : ap_wl L x = k) (hk : 1 ≤ k) : ap_leave L x = va_up L k (ap_rm x (L k)) := by
  unfold ap_leave
  rw [if_neg (by omega), h]
theorem ap_inv_leave {L : Nat → List Int32} (hI : ap_inv L) (x : Int32) : ap_inv (ap_leave L x) := by
  unfold ap_leave
  split
  · exact hI
  · exact ap_inv_rm hI _ _
theorem ap_leave_none {L : Nat → List Int32} (hI : ap_inv L) (x : Int32) : ∀ j, x ∉ ap_leave L x j := by
  by_cases h : ap_wl L x = 0
  · rw [ap_leave_0 h]
    exact ap_wl_zero hI h
  · have hm := ap_wl_mem h
    unfold ap_leave
    rw [if_neg h]
    exact ap_rm_none hI hm
theorem ap_leave_len {L : Nat → List Int32} (x : Int32) (i : Nat) : (ap_leave L x i).length ≤ (L i).length := by
  unfold ap_leave
  split
  · exact Nat.le_refl _
  · by_cases e : i = ap_wl L x
    · rw [e, va_up_self]
      exact ap_rm_le
    · rw [va_up_ne _ _ e]
      exact Nat.le_refl _
/-- the list that holds x, list after list -/
theorem ap_wl_chain {L : Nat → List Int32} {x : Int32} (hI : ap_inv L) {v1 v2 v3 v4 : Nat} (h1 : (v1 = 1 ∧ x ∈ L 1) ∨ (v1 = 0 ∧ x ∉ L 1)) (h2 : (v2 = 2 ∧ x ∈ L 2) ∨ (v2 = v1 ∧ x ∉ L 2)) (h3 : (v3 = 3 ∧ x ∈ L 3) ∨ (v3 = v2 ∧ x ∉ L 3)) (h4 : (v4 = 4 ∧ x ∈ L 4) ∨ (v4 = v3 ∧ x ∉ L 4)) : v4 = ap_wl L x := by
  rcases h4 with ⟨e4, m4⟩ | ⟨e4, m4⟩
  · rw [e4, ap_wl_of hI m4]
  · rcases h3 with ⟨e3, m3⟩ | ⟨e3, m3⟩
    · rw [e4, e3, ap_wl_of hI m3]
    · rcases h2 with ⟨e2, m2⟩ | ⟨e2, m2⟩
      · rw [e4, e3, e2, ap_wl_of hI m2]
      · rcases h1 with ⟨e1, m1⟩ | ⟨e1, m1⟩
        · rw [e4, e3, e2, e1, ap_wl_of hI m1]
        · rw [e4, e3, e2, e1]
          unfold ap_wl
          rw [if_neg m1, if_neg m2, if_neg m3, if_neg m4]
theorem am_not {f : Nat → Int32} {l : List Int32} {x : Int32} {k : Nat} (hf : ar_is (fun i => f (64 * k + i)) l) (h : ∀ j, j < l.length → f (64 * k + j) ≠ x) : x ∉ l := fun hm => by
  obtain ⟨j, hj, e⟩ := ar_of hf hm
  exact h j hj e
theorem am_mem {f : Nat → Int32} {l : List Int32} {x : Int32} {k j : Nat} (hf : ar_is (fun i => f (64 * k + i)) l) (hj : j < l.length) (h : f (64 * k + j) = x) : x ∈ l := by
  have h9 : f (64 * k + j) ∈ l := ar_mem hf hj
  rw [h] at h9
  exact h9
/-- the places lo .. hi - 1 hold what stood one further on -/
def ap_sh (f : Nat → Int32) (lo hi : Nat) : Nat → Int32 := fun m => if lo ≤ m ∧ m < hi then f (m + 1) else f m
theorem ap_sh_0 {f : Nat → Int32} {lo : Nat} : ap_sh f lo lo = f := by
  funext m
  unfold ap_sh
  rw [if_neg (by omega)]
theorem ap_sh_s {f : Nat → Int32} {lo hi : Nat} (h : lo ≤ hi) : upd (ap_sh f lo hi) hi (ap_sh f lo hi (hi + 1)) = ap_sh f lo (hi + 1) := by
  funext m
  by_cases e : m = hi
  · subst e
    rw [pk_us]
    unfold ap_sh
    rw [if_neg (by omega), if_pos (by omega)]
  · rw [pk_un e]
    unfold ap_sh
    by_cases h2 : lo ≤ m ∧ m < hi
    · rw [if_pos h2, if_pos (by omega)]
    · rw [if_neg h2, if_neg (by omega)]
/-- the places i + 1 .. hi hold what stood one before -/
def ap_sd (f : Nat → Int32) (i hi : Nat) : Nat → Int32 := fun m => if i < m ∧ m ≤ hi then f (m - 1) else f m
theorem ap_sd_0 {f : Nat → Int32} {hi : Nat} : ap_sd f hi hi = f := by
  funext m
  unfold ap_sd
  rw [if_neg (by omega)]
theorem ap_sd_s {f : Nat → Int32} {i hi : Nat} (h0 : 0 < i) (h : i ≤ hi) : upd (ap_sd f i hi) i (ap_sd f i hi (i - 1)) = ap_sd f (i - 1) hi := by
  funext m
  by_cases e : m = i
  · subst e
    rw [pk_us]
    unfold ap_sd
    rw [if_neg (by omega), if_pos (by omega)]
  · rw [pk_un e]
    unfold ap_sd
    by_cases h2 : i < m ∧ m ≤ hi
    · rw [if_pos h2, if_pos (by omega)]
    · rw [if_neg h2, if_neg (by omega)]
theorem fm_rm {f n : Nat → Int32} {L : Nat → List Int32} {x : Int32} {k j : Nat} (h : fm_ok f n L) (hI : ap_inv L) (hz : ∀ i, 1 ≤ i → i ≤ 4 → (L i).length ≤ 48) (hka : 1 ≤ k) (hkb : k ≤ 4) (hj : j < (L k).length) (hx : f (64 * k + j) = x) : fm_ok (ap_sh f (64 * k + j) (64 * k + ((L k).length - 1))) (upd n k (nI ((L k).length - 1))) (va_up L k (ap_rm x (L k))) := by
  have hL := hz k hka hkb
  have hk := h k hka hkb
  have e : ap_rm x (L k) = (L k).eraseIdx j := ap_rm_idx _ _ (hI.1 k) (by rw [hk.2 j hj]; exact congrArg some hx)
  intro i h1 h4
  by_cases ei : i = k
  · subst ei
    rw [va_up_self, pk_us, e, List.length_eraseIdx, if_pos hj]
    refine ⟨rfl, ar_del hk.2 hj (fun m hm => ?_) (fun m hm hm2 => ?_)⟩
    · show ap_sh _ _ _ _ = _
      unfold ap_sh
      rw [if_neg (by omega)]
    · show ap_sh _ _ _ _ = _
      unfold ap_sh
      rw [if_pos (by omega)]
      rfl
  · rw [va_up_ne _ _ ei, pk_un ei]
    have hi := h i h1 h4
    have hLi := hz i h1 h4
    refine ⟨hi.1, ar_cong hi.2 (fun m hm => ?_)⟩
    show ap_sh _ _ _ _ = _
    unfold ap_sh
    rw [if_neg (by omega)]
theorem fm_add {f n : Nat → Int32} {L : Nat → List Int32} {x : Int32} {k : Nat} (h : fm_ok f n L) (hz : ∀ i, 1 ≤ i → i ≤ 4 → (L i).length ≤ 48) (hka : 1 ≤ k) (hkb : k ≤ 4) : fm_ok (upd (ap_sd f (64 * k) (64 * k + (L k).length)) (64 * k) x) (upd n k (nI ((L k).length + 1))) (va_up L k (x :: L k)) := by
  have hL := hz k hka hkb
  have hk := h k hka hkb
  intro i h1 h4
  by_cases ei : i = k
  · subst ei
    rw [va_up_self, pk_us]
    refine ⟨rfl, ar_cons hk.2 ?_ (fun m hm => ?_)⟩
    · show upd _ _ _ (64 * i + 0) = _
      rw [Nat.add_zero, pk_us]
    · show upd _ _ _ (64 * i + (m + 1)) = _
      rw [pk_un (by omega)]
      unfold ap_sd
      rw [if_pos (by omega)]
      rfl
  · rw [va_up_ne _ _ ei, pk_un ei]
    have hi := h i h1 h4
    have hLi := hz i h1 h4
    refine ⟨hi.1, ar_cong hi.2 (fun m hm => ?_)⟩
    show upd _ _ _ (64 * i + m) = _
    rw [pk_un (by omega)]
    unfold ap_sd
    rw [if_neg (by omega)]
theorem ap_z_all {L : Nat → List Int32} (hz : ap_tot L ≤ 48) : ∀ i, 1 ≤ i → i ≤ 4 → (L i).length ≤ 48 := by
  intro i h1 h4
  unfold ap_tot at hz
  have : i = 1 ∨ i = 2 ∨ i = 3 ∨ i = 4 := by omega
  rcases this with rfl | rfl | rfl | rfl <;> omega
set_option maxHeartbeats 4000000 in
set_option maxRecDepth 100000 in
theorem c_M_isAddress (l : Launch) (dC : Nat → ClassId) (dI : Nat → Nat → Nat) (x : Int32) (sz : Nat)  : Met l yX2_isAddress wsX2_isAddress ({ frames := 0, cells := 0, slots := 0, locals := 0 }) (va_Pc [.int x] (fun U => U.heap.size = sz)) (va_Qi (fun (r : Int32) (_ : Unit) => r = (if x < 0 ∨ nI 64 ≤ x then nI 0 else nI 1)) (fun _ _ => True) (va_A [] sz)) 0 0 (va_A [] sz) := by
  refine Met.ofW (cc := cX2_isAddress) (maxL := 1) (ret := (some .boolean)) (by decide) rfl ?_
  intro p e s m args below meth c s₁ B hml hv
  obtain ⟨rfl, hsz⟩ := hv
  have hx := B.exec
  have hb := B.bytes
  have hr := B.returns
  have hts := atoms_spec (ws := wsX2_isAddress) B.pre
  have hown : s.vm.findClass RX2 = some m.cls := findClass_of_methodNamed B.named
  have hlocks := B.notSynchronized
  subst hsz
  have hP : va_P (dC, dI) vwCl [] s.heap := fun k q h => by simp at h
  have hD : va_D (va_A [] s.heap.size) [] := ⟨fun i j p q h => by simp at h, fun k q h => by simp at h⟩
  generalize hAe : va_A [] s.heap.size = A at hD ⊢
  have hA : ∀ q : Nat, s.heap.size ≤ q → A q := fun q h => by rw [← hAe]; exact Or.inr h
  have hS0 : ∀ H, s.heap = H → va_S A s.heap H [] := fun H h => by subst h; exact va_S.rf
  have hl := lv_entry ([.int x]) (n := 1) (Nat.le_of_ble_eq_true rfl)
  rw [lg_entry_eq]
  generalize (lg_sl ([.int x]) ++ List.replicate (1 - (lg_sl ([.int x])).length) Slot.unset).toArray = ls at hl ⊢
  have hl : lv_has ls 1 [(0, .int x)] := hl
  generalize hHe : s.heap = H at hP ⊢
  have hS := hS0 H hHe
  refine lv_iload_n hx hb dX2_isAddress_0 rfl (lv_at hl 0 rfl) ?_
  refine lv_if_lt (tgt := 14) hx hb dX2_isAddress_1 (by decide) (fun c_1 => ?_) (fun c_1 => ?_)
  · skip
    refine lv_iconst (v := nI 0) hx hb dX2_isAddress_14 (by decide) ?_
    exact W.zret (v := nI 0) (ty := .boolean) hx hb hr (by decide) (fun t ht hW => ⟨⟨nI 0, (), rfl, (if_pos (by first | exact Or.inl c_1 | exact Or.inr c_7)).symm, trivial⟩, hS.F ht⟩) hS.2.2 dX2_isAddress_15
  · skip
    refine lv_iload_n hx hb dX2_isAddress_4 rfl (lv_at hl 0 rfl) ?_
    refine lv_bipush (v := nI 64) hx hb dX2_isAddress_5 (by decide) ?_
    refine lv_icmp_ge (tgt := 14) hx hb dX2_isAddress_7 (by decide) (fun c_7 => ?_) (fun c_7 => ?_)
    · skip
      refine lv_iconst (v := nI 0) hx hb dX2_isAddress_14 (by decide) ?_
      exact W.zret (v := nI 0) (ty := .boolean) hx hb hr (by decide) (fun t ht hW => ⟨⟨nI 0, (), rfl, (if_pos (by first | exact Or.inl c_1 | exact Or.inr c_7)).symm, trivial⟩, hS.F ht⟩) hS.2.2 dX2_isAddress_15
    · skip
      refine lv_iconst (v := nI 1) hx hb dX2_isAddress_10 (by decide) ?_
      refine lv_goto (tgt := 15) hx hb dX2_isAddress_11 (by decide) ?_
      exact W.zret (v := nI 1) (ty := .boolean) hx hb hr (by decide) (fun t ht hW => ⟨⟨nI 1, (), rfl, (if_neg (fun h9 => h9.elim c_1 c_7)).symm, trivial⟩, hS.F ht⟩) hS.2.2 dX2_isAddress_15
set_option maxHeartbeats 4000000 in
set_option maxRecDepth 100000 in
theorem c_M_whichList (l : Launch) (dC : Nat → ClassId) (dI : Nat → Nat → Nat) (q : Nat → Nat) (ca : Nat → ClassId) (C : Nat) (f n w d st : Nat → Int32) (tg : Nat) (hi mi go : Int32) (L : Nat → List Int32) (x : Int32) (sz : Nat) (hfm : fm_ok f n L) (hI : ap_inv L) (hz : ap_tot L ≤ 48) : Met l yX2_whichList wsX2_whichList ({ frames := 0, cells := 0, slots := 0, locals := 0 }) (va_Pc [.ref (q 0), .int x] (fun U => U.heap.size = sz ∧ va_P (dC, dI) vwCl (cm q ca C f n w d st tg hi mi go) U.heap ∧ va_K (dC, dI) vwCl (km ca) U ∧ va_D (fun _ => True) (cm q ca C f n w d st tg hi mi go))) (va_Qi (fun (r : Int32) (u : ap_U) => r = nI (ap_wl L x) ∧ u = (L, w, d, st, tg, hi, mi, go)) (at_M dC dI (va_A (cm q ca C f n w d st tg hi mi go) sz) q ca C) (va_A (cm q ca C f n w d st tg hi mi go) sz)) 0 0 (va_A (cm q ca C f n w d st tg hi mi go) sz) := by
  refine Met.ofW (cc := cX2_whichList) (maxL := 5) (ret := (some .int)) (by decide) rfl ?_
  intro p e s m args below meth c s₁ B hml hv
  obtain ⟨rfl, hsz, hP, hK, hD0⟩ := hv
  have hx := B.exec
  have hb := B.bytes
  have hr := B.returns
  have hts := atoms_spec (ws := wsX2_whichList) B.pre
  have hown : s.vm.findClass RX2 = some m.cls := findClass_of_methodNamed B.named
  have hlocks := B.notSynchronized
  have hwX2 : ∀ w ∈ u_ws RX2 TX2 10, w ∈ wsX2_whichList := by decide +kernel
  subst hsz
  have hD := hD0.self (sz := s.heap.size)
  generalize hAe : va_A (cm q ca C f n w d st tg hi mi go) s.heap.size = A at hD ⊢
  have hA : ∀ q : Nat, s.heap.size ≤ q → A q := fun q h => by rw [← hAe]; exact Or.inr h
  have hS0 : ∀ H, s.heap = H → va_S A s.heap H [] := fun H h => by subst h; exact va_S.rf
  have hl := lv_entry ([.ref (q 0), .int x]) (n := 5) (Nat.le_of_ble_eq_true rfl)
  rw [lg_entry_eq]
  generalize (lg_sl ([.ref (q 0), .int x]) ++ List.replicate (5 - (lg_sl ([.ref (q 0), .int x])).length) Slot.unset).toArray = ls at hl ⊢
  have hl : lv_has ls 5 [(0, .ref (q 0)), (1, .int x)] := hl
  generalize hHe : s.heap = H at hP ⊢
  have hS := hS0 H hHe
  have z1 : (L 1).length ≤ 48 := by unfold ap_tot at hz; omega
  have z2 : (L 2).length ≤ 48 := by unfold ap_tot at hz; omega
  have z3 : (L 3).length ≤ 48 := by unfold ap_tot at hz; omega
  have z4 : (L 4).length ≤ 48 := by unfold ap_tot at hz; omega
  refine lv_iconst (v := nI 0) hx hb dX2_whichList_0 (by decide) ?_
  refine lv_istore_n (lv' := [(2, .int (nI 0)), (0, .ref (q 0)), (1, .int x)]) hx hb dX2_whichList_1 rfl hl (by decide) rfl (fun ls hl => ?_)
  refine lv_iconst (v := nI 1) hx hb dX2_whichList_2 (by decide) ?_
  refine lv_istore_n (lv' := [(3, .int (nI 1)), (2, .int (nI 0)), (0, .ref (q 0)), (1, .int x)]) hx hb dX2_whichList_3 rfl hl (by decide) rfl (fun ls hl => ?_)
  refine lv_iload_n hx hb dX2_whichList_4 rfl (lv_at hl 0 rfl) ?_
  refine lv_iconst (v := nI 5) hx hb dX2_whichList_5 (by decide) ?_
  refine lv_icmp_ge (tgt := 57) hx hb dX2_whichList_6 (by decide) (fun c_6 => ?_) (fun c_6 => ?_)
  · skip
    replace c_6 : 5 ≤ 1 := (nI_leI (a := 5) (b := 1) (by omega) (by omega)).mp c_6
    exact absurd c_6 (by omega)
  · skip
    replace c_6 : ¬ (5 ≤ 1) := fun h9 => c_6 ((nI_leI (a := 5) (b := 1) (by omega) (by omega)).mpr h9)
    refine lv_iconst (v := nI 0) hx hb dX2_whichList_9 (by decide) ?_
    refine lv_istore (lv' := [(4, .int (nI 0)), (3, .int (nI 1)), (2, .int (nI 0)), (0, .ref (q 0)), (1, .int x)]) hx hb dX2_whichList_10 hl (by decide) rfl (fun ls hl => ?_)
    have loop1 : ∀ (k : Nat) (i1 : Nat) (v1 : Nat) (ls : Array Slot) (H : Heap) (locs : List Loc), (i1 ≤ (L 1).length) → ((v1 = 1 ∧ x ∈ L 1) ∨ (v1 = 0 ∧ ∀ j, j < i1 → f (64 * 1 + j) ≠ x)) → lv_has ls 5 [(0, .ref (q 0)), (1, .int x), (2, .int (nI v1)), (3, .int (nI 1)), (4, .int (nI i1))] → va_P (dC, dI) vwCl (cm q ca C f n w d st tg hi mi go) H → va_D A (cm q ca C f n w d st tg hi mi go) → va_S A s.heap H locs → (L 1).length + 1 ≤ i1 + k → W p l e (headSpec wsX2_whichList ({ frames := 0, cells := 0, slots := 0, locals := 0 })).room s m ([.ref (q 0), .int x] : List Value).toArray below meth c H locs 0 0 (MQ below (va_Qi (fun (r : Int32) (u : ap_U) => r = nI (ap_wl L x) ∧ u = (L, w, d, st, tg, hi, mi, go)) (at_M dC dI A q ca C) A) ([.ref (q 0), .int x] : List Value).toArray s 0 0 A) (F0 m 12 ls []) := by
      intro k
      induction k with
      | zero => intro i1 v1 ls H locs hle1 ha1 hl hP hD hS hk; exact absurd hk (by omega)
      | succ k ih =>
        intro i1 v1 ls H locs hle1 ha1 hl hP hD hS hk
        refine lv_iload hx hb dX2_whichList_12 (lv_at hl 4 rfl) ?_
        refine lv_aload_n hx hb dX2_whichList_14 rfl (lv_at hl 0 rfl) ?_
        refine va_get (D := (dC, dI)) (ci := 2) (v := .ref (q 2)) (C := RX2) (T := TX2) (N := 10) hx hb hts hwX2 hown hK hP 0 rfl rfl 2 (by decide) (hts (.fieldLink RX2 13 "ArcCacheModel" "many" "[I") (by decide +kernel)) (fun _ h9 => h9) rfl dX2_whichList_15 ?_
        refine lv_iload_n hx hb dX2_whichList_18 rfl (lv_at hl 3 rfl) ?_
        refine va_iald hx hb hK hP 2 1 rfl rfl (vp_in_nI (show 1 < 5 by omega) (by decide)) dX2_whichList_19 ?_
        refine lv_topi (fun x_2 e_x_2 => ?_)
        have e_x_2 : x_2 = n 1 := by rw [e_x_2]; rw [nI_clamp (by omega)]
        subst e_x_2
        refine lv_topi (fun x_3 e_x_3 => ?_)
        have e_x_3 : x_3 = nI ((L 1).length) := by rw [e_x_3]; exact (hfm 1 (by decide) (by decide)).1
        subst e_x_3
        refine lv_icmp_ge (tgt := 51) hx hb dX2_whichList_20 (by decide) (fun c_20 => ?_) (fun c_20 => ?_)
        · skip
          replace c_20 : ((L 1).length) ≤ i1 := (nI_leI (a := (L 1).length) (b := i1) (by omega) (by omega)).mp c_20
          have hv1 : (v1 = 1 ∧ x ∈ L 1) ∨ (v1 = 0 ∧ x ∉ L 1) := ha1.elim Or.inl (fun h9 => Or.inr ⟨h9.1, am_not (hfm 1 (by decide) (by decide)).2 (fun j hj => h9.2 j (by omega))⟩)
          refine lv_iinc (v := nI 2) (lv' := [(3, .int (nI 2)), (0, .ref (q 0)), (1, .int x), (2, .int (nI v1)), (4, .int (nI i1))]) hx hb dX2_whichList_51 hl (k := 3) rfl (by decide) (by decide) rfl (fun ls hl => ?_)
          refine lv_goto (tgt := 4) hx hb dX2_whichList_54 (by decide) ?_
          refine lv_iload_n hx hb dX2_whichList_4 rfl (lv_at hl 0 rfl) ?_
          refine lv_iconst (v := nI 5) hx hb dX2_whichList_5 (by decide) ?_
          refine lv_icmp_ge (tgt := 57) hx hb dX2_whichList_6 (by decide) (fun c_6 => ?_) (fun c_6 => ?_)
          · skip
            replace c_6 : 5 ≤ 2 := (nI_leI (a := 5) (b := 2) (by omega) (by omega)).mp c_6
            exact absurd c_6 (by omega)
          · skip
            replace c_6 : ¬ (5 ≤ 2) := fun h9 => c_6 ((nI_leI (a := 5) (b := 2) (by omega) (by omega)).mpr h9)
            refine lv_iconst (v := nI 0) hx hb dX2_whichList_9 (by decide) ?_
            refine lv_istore (lv' := [(4, .int (nI 0)), (3, .int (nI 2)), (0, .ref (q 0)), (1, .int x), (2, .int (nI v1))]) hx hb dX2_whichList_10 hl (by decide) rfl (fun ls hl => ?_)
            have loop2 : ∀ (k : Nat) (i2 : Nat) (v2 : Nat) (ls : Array Slot) (H : Heap) (locs : List Loc), (i2 ≤ (L 2).length) → ((v2 = 2 ∧ x ∈ L 2) ∨ (v2 = v1 ∧ ∀ j, j < i2 → f (64 * 2 + j) ≠ x)) → lv_has ls 5 [(0, .ref (q 0)), (1, .int x), (2, .int (nI v2)), (3, .int (nI 2)), (4, .int (nI i2))] → va_P (dC, dI) vwCl (cm q ca C f n w d st tg hi mi go) H → va_D A (cm q ca C f n w d st tg hi mi go) → va_S A s.heap H locs → (L 2).length + 1 ≤ i2 + k → W p l e (headSpec wsX2_whichList ({ frames := 0, cells := 0, slots := 0, locals := 0 })).room s m ([.ref (q 0), .int x] : List Value).toArray below meth c H locs 0 0 (MQ below (va_Qi (fun (r : Int32) (u : ap_U) => r = nI (ap_wl L x) ∧ u = (L, w, d, st, tg, hi, mi, go)) (at_M dC dI A q ca C) A) ([.ref (q 0), .int x] : List Value).toArray s 0 0 A) (F0 m 12 ls []) := by
              intro k
              induction k with
              | zero => intro i2 v2 ls H locs hle2 ha2 hl hP hD hS hk; exact absurd hk (by omega)
              | succ k ih =>
                intro i2 v2 ls H locs hle2 ha2 hl hP hD hS hk
                refine lv_iload hx hb dX2_whichList_12 (lv_at hl 4 rfl) ?_
                refine lv_aload_n hx hb dX2_whichList_14 rfl (lv_at hl 0 rfl) ?_
                refine va_get (D := (dC, dI)) (ci := 2) (v := .ref (q 2)) (C := RX2) (T := TX2) (N := 10) hx hb hts hwX2 hown hK hP 0 rfl rfl 2 (by decide) (hts (.fieldLink RX2 13 "ArcCacheModel" "many" "[I") (by decide +kernel)) (fun _ h9 => h9) rfl dX2_whichList_15 ?_
                refine lv_iload_n hx hb dX2_whichList_18 rfl (lv_at hl 3 rfl) ?_
                refine va_iald hx hb hK hP 2 1 rfl rfl (vp_in_nI (show 2 < 5 by omega) (by decide)) dX2_whichList_19 ?_
                refine lv_topi (fun x_5 e_x_5 => ?_)
                have e_x_5 : x_5 = n 2 := by rw [e_x_5]; rw [nI_clamp (by omega)]
                subst e_x_5
                refine lv_topi (fun x_6 e_x_6 => ?_)
                have e_x_6 : x_6 = nI ((L 2).length) := by rw [e_x_6]; exact (hfm 2 (by decide) (by decide)).1
                subst e_x_6
                refine lv_icmp_ge (tgt := 51) hx hb dX2_whichList_20 (by decide) (fun c_20 => ?_) (fun c_20 => ?_)
                · skip
                  replace c_20 : ((L 2).length) ≤ i2 := (nI_leI (a := (L 2).length) (b := i2) (by omega) (by omega)).mp c_20
                  have hv2 : (v2 = 2 ∧ x ∈ L 2) ∨ (v2 = v1 ∧ x ∉ L 2) := ha2.elim Or.inl (fun h9 => Or.inr ⟨h9.1, am_not (hfm 2 (by decide) (by decide)).2 (fun j hj => h9.2 j (by omega))⟩)
                  refine lv_iinc (v := nI 3) (lv' := [(3, .int (nI 3)), (0, .ref (q 0)), (1, .int x), (2, .int (nI v2)), (4, .int (nI i2))]) hx hb dX2_whichList_51 hl (k := 3) rfl (by decide) (by decide) rfl (fun ls hl => ?_)
                  refine lv_goto (tgt := 4) hx hb dX2_whichList_54 (by decide) ?_
                  refine lv_iload_n hx hb dX2_whichList_4 rfl (lv_at hl 0 rfl) ?_
                  refine lv_iconst (v := nI 5) hx hb dX2_whichList_5 (by decide) ?_
                  refine lv_icmp_ge (tgt := 57) hx hb dX2_whichList_6 (by decide) (fun c_6 => ?_) (fun c_6 => ?_)
                  · skip
                    replace c_6 : 5 ≤ 3 := (nI_leI (a := 5) (b := 3) (by omega) (by omega)).mp c_6
                    exact absurd c_6 (by omega)
                  · skip
                    replace c_6 : ¬ (5 ≤ 3) := fun h9 => c_6 ((nI_leI (a := 5) (b := 3) (by omega) (by omega)).mpr h9)
                    refine lv_iconst (v := nI 0) hx hb dX2_whichList_9 (by decide) ?_
                    refine lv_istore (lv' := [(4, .int (nI 0)), (3, .int (nI 3)), (0, .ref (q 0)), (1, .int x), (2, .int (nI v2))]) hx hb dX2_whichList_10 hl (by decide) rfl (fun ls hl => ?_)
                    have loop3 : ∀ (k : Nat) (i3 : Nat) (v3 : Nat) (ls : Array Slot) (H : Heap) (locs : List Loc), (i3 ≤ (L 3).length) → ((v3 = 3 ∧ x ∈ L 3) ∨ (v3 = v2 ∧ ∀ j, j < i3 → f (64 * 3 + j) ≠ x)) → lv_has ls 5 [(0, .ref (q 0)), (1, .int x), (2, .int (nI v3)), (3, .int (nI 3)), (4, .int (nI i3))] → va_P (dC, dI) vwCl (cm q ca C f n w d st tg hi mi go) H → va_D A (cm q ca C f n w d st tg hi mi go) → va_S A s.heap H locs → (L 3).length + 1 ≤ i3 + k → W p l e (headSpec wsX2_whichList ({ frames := 0, cells := 0, slots := 0, locals := 0 })).room s m ([.ref (q 0), .int x] : List Value).toArray below meth c H locs 0 0 (MQ below (va_Qi (fun (r : Int32) (u : ap_U) => r = nI (ap_wl L x) ∧ u = (L, w, d, st, tg, hi, mi, go)) (at_M dC dI A q ca C) A) ([.ref (q 0), .int x] : List Value).toArray s 0 0 A) (F0 m 12 ls []) := by
                      intro k
                      induction k with
                      | zero => intro i3 v3 ls H locs hle3 ha3 hl hP hD hS hk; exact absurd hk (by omega)
                      | succ k ih =>
                        intro i3 v3 ls H locs hle3 ha3 hl hP hD hS hk
                        refine lv_iload hx hb dX2_whichList_12 (lv_at hl 4 rfl) ?_
                        refine lv_aload_n hx hb dX2_whichList_14 rfl (lv_at hl 0 rfl) ?_
                        refine va_get (D := (dC, dI)) (ci := 2) (v := .ref (q 2)) (C := RX2) (T := TX2) (N := 10) hx hb hts hwX2 hown hK hP 0 rfl rfl 2 (by decide) (hts (.fieldLink RX2 13 "ArcCacheModel" "many" "[I") (by decide +kernel)) (fun _ h9 => h9) rfl dX2_whichList_15 ?_
                        refine lv_iload_n hx hb dX2_whichList_18 rfl (lv_at hl 3 rfl) ?_
                        refine va_iald hx hb hK hP 2 1 rfl rfl (vp_in_nI (show 3 < 5 by omega) (by decide)) dX2_whichList_19 ?_
                        refine lv_topi (fun x_8 e_x_8 => ?_)
                        have e_x_8 : x_8 = n 3 := by rw [e_x_8]; rw [nI_clamp (by omega)]
                        subst e_x_8
                        refine lv_topi (fun x_9 e_x_9 => ?_)
                        have e_x_9 : x_9 = nI ((L 3).length) := by rw [e_x_9]; exact (hfm 3 (by decide) (by decide)).1
                        subst e_x_9
                        refine lv_icmp_ge (tgt := 51) hx hb dX2_whichList_20 (by decide) (fun c_20 => ?_) (fun c_20 => ?_)
                        · skip
                          replace c_20 : ((L 3).length) ≤ i3 := (nI_leI (a := (L 3).length) (b := i3) (by omega) (by omega)).mp c_20
                          have hv3 : (v3 = 3 ∧ x ∈ L 3) ∨ (v3 = v2 ∧ x ∉ L 3) := ha3.elim Or.inl (fun h9 => Or.inr ⟨h9.1, am_not (hfm 3 (by decide) (by decide)).2 (fun j hj => h9.2 j (by omega))⟩)
                          refine lv_iinc (v := nI 4) (lv' := [(3, .int (nI 4)), (0, .ref (q 0)), (1, .int x), (2, .int (nI v3)), (4, .int (nI i3))]) hx hb dX2_whichList_51 hl (k := 3) rfl (by decide) (by decide) rfl (fun ls hl => ?_)
                          refine lv_goto (tgt := 4) hx hb dX2_whichList_54 (by decide) ?_
                          refine lv_iload_n hx hb dX2_whichList_4 rfl (lv_at hl 0 rfl) ?_
                          refine lv_iconst (v := nI 5) hx hb dX2_whichList_5 (by decide) ?_
                          refine lv_icmp_ge (tgt := 57) hx hb dX2_whichList_6 (by decide) (fun c_6 => ?_) (fun c_6 => ?_)
                          · skip
                            replace c_6 : 5 ≤ 4 := (nI_leI (a := 5) (b := 4) (by omega) (by omega)).mp c_6
                            exact absurd c_6 (by omega)
                          · skip
                            replace c_6 : ¬ (5 ≤ 4) := fun h9 => c_6 ((nI_leI (a := 5) (b := 4) (by omega) (by omega)).mpr h9)
                            refine lv_iconst (v := nI 0) hx hb dX2_whichList_9 (by decide) ?_
                            refine lv_istore (lv' := [(4, .int (nI 0)), (3, .int (nI 4)), (0, .ref (q 0)), (1, .int x), (2, .int (nI v3))]) hx hb dX2_whichList_10 hl (by decide) rfl (fun ls hl => ?_)
                            have loop4 : ∀ (k : Nat) (i4 : Nat) (v4 : Nat) (ls : Array Slot) (H : Heap) (locs : List Loc), (i4 ≤ (L 4).length) → ((v4 = 4 ∧ x ∈ L 4) ∨ (v4 = v3 ∧ ∀ j, j < i4 → f (64 * 4 + j) ≠ x)) → lv_has ls 5 [(0, .ref (q 0)), (1, .int x), (2, .int (nI v4)), (3, .int (nI 4)), (4, .int (nI i4))] → va_P (dC, dI) vwCl (cm q ca C f n w d st tg hi mi go) H → va_D A (cm q ca C f n w d st tg hi mi go) → va_S A s.heap H locs → (L 4).length + 1 ≤ i4 + k → W p l e (headSpec wsX2_whichList ({ frames := 0, cells := 0, slots := 0, locals := 0 })).room s m ([.ref (q 0), .int x] : List Value).toArray below meth c H locs 0 0 (MQ below (va_Qi (fun (r : Int32) (u : ap_U) => r = nI (ap_wl L x) ∧ u = (L, w, d, st, tg, hi, mi, go)) (at_M dC dI A q ca C) A) ([.ref (q 0), .int x] : List Value).toArray s 0 0 A) (F0 m 12 ls []) := by
                              intro k
                              induction k with
                              | zero => intro i4 v4 ls H locs hle4 ha4 hl hP hD hS hk; exact absurd hk (by omega)
                              | succ k ih =>
                                intro i4 v4 ls H locs hle4 ha4 hl hP hD hS hk
                                refine lv_iload hx hb dX2_whichList_12 (lv_at hl 4 rfl) ?_
                                refine lv_aload_n hx hb dX2_whichList_14 rfl (lv_at hl 0 rfl) ?_
                                refine va_get (D := (dC, dI)) (ci := 2) (v := .ref (q 2)) (C := RX2) (T := TX2) (N := 10) hx hb hts hwX2 hown hK hP 0 rfl rfl 2 (by decide) (hts (.fieldLink RX2 13 "ArcCacheModel" "many" "[I") (by decide +kernel)) (fun _ h9 => h9) rfl dX2_whichList_15 ?_
                                refine lv_iload_n hx hb dX2_whichList_18 rfl (lv_at hl 3 rfl) ?_
                                refine va_iald hx hb hK hP 2 1 rfl rfl (vp_in_nI (show 4 < 5 by omega) (by decide)) dX2_whichList_19 ?_
                                refine lv_topi (fun x_11 e_x_11 => ?_)
                                have e_x_11 : x_11 = n 4 := by rw [e_x_11]; rw [nI_clamp (by omega)]
                                subst e_x_11
                                refine lv_topi (fun x_12 e_x_12 => ?_)
                                have e_x_12 : x_12 = nI ((L 4).length) := by rw [e_x_12]; exact (hfm 4 (by decide) (by decide)).1
                                subst e_x_12
                                refine lv_icmp_ge (tgt := 51) hx hb dX2_whichList_20 (by decide) (fun c_20 => ?_) (fun c_20 => ?_)
                                · skip
                                  replace c_20 : ((L 4).length) ≤ i4 := (nI_leI (a := (L 4).length) (b := i4) (by omega) (by omega)).mp c_20
                                  have hv4 : (v4 = 4 ∧ x ∈ L 4) ∨ (v4 = v3 ∧ x ∉ L 4) := ha4.elim Or.inl (fun h9 => Or.inr ⟨h9.1, am_not (hfm 4 (by decide) (by decide)).2 (fun j hj => h9.2 j (by omega))⟩)
                                  refine lv_iinc (v := nI 5) (lv' := [(3, .int (nI 5)), (0, .ref (q 0)), (1, .int x), (2, .int (nI v4)), (4, .int (nI i4))]) hx hb dX2_whichList_51 hl (k := 3) rfl (by decide) (by decide) rfl (fun ls hl => ?_)
                                  refine lv_goto (tgt := 4) hx hb dX2_whichList_54 (by decide) ?_
                                  refine lv_iload_n hx hb dX2_whichList_4 rfl (lv_at hl 0 rfl) ?_
                                  refine lv_iconst (v := nI 5) hx hb dX2_whichList_5 (by decide) ?_
                                  refine lv_icmp_ge (tgt := 57) hx hb dX2_whichList_6 (by decide) (fun c_6 => ?_) (fun c_6 => ?_)
                                  · skip
                                    replace c_6 : 5 ≤ 5 := (nI_leI (a := 5) (b := 5) (by omega) (by omega)).mp c_6
                                    refine lv_iload_n hx hb dX2_whichList_57 rfl (lv_at hl 3 rfl) ?_
                                    exact W.iret (v := nI v4) hx hb hr (fun t ht hW => ⟨⟨nI v4, (L, w, d, st, tg, hi, mi, go), rfl, ⟨congrArg nI (ap_wl_chain hI hv1 hv2 hv3 hv4), rfl⟩, f, n, hfm, by rw [ht]; exact hP, va_K.moved hW.alike hK, hD⟩, hS.F ht⟩) hS.2.2 dX2_whichList_58
                                  · skip
                                    replace c_6 : ¬ (5 ≤ 5) := fun h9 => c_6 ((nI_leI (a := 5) (b := 5) (by omega) (by omega)).mpr h9)
                                    exact absurd c_6 (by omega)
                                · skip
                                  replace c_20 : ¬ (((L 4).length) ≤ i4) := fun h9 => c_20 ((nI_leI (a := (L 4).length) (b := i4) (by omega) (by omega)).mpr h9)
                                  refine lv_aload_n hx hb dX2_whichList_23 rfl (lv_at hl 0 rfl) ?_
                                  refine va_get (D := (dC, dI)) (ci := 2) (v := .ref (q 1)) (C := RX2) (T := TX2) (N := 10) hx hb hts hwX2 hown hK hP 0 rfl rfl 1 (by decide) (hts (.fieldLink RX2 7 "ArcCacheModel" "lists" "[I") (by decide +kernel)) (fun _ h9 => h9) rfl dX2_whichList_24 ?_
                                  refine lv_bipush (v := nI 64) hx hb dX2_whichList_27 (by decide) ?_
                                  refine lv_iload_n hx hb dX2_whichList_29 rfl (lv_at hl 3 rfl) ?_
                                  refine lv_imul hx hb dX2_whichList_30 ?_
                                  refine lv_topi (fun x_13 e_x_13 => ?_)
                                  have e_x_13 : x_13 = nI (64 * 4) := by rw [e_x_13]; exact pk_mul _ _
                                  subst e_x_13
                                  refine lv_iload hx hb dX2_whichList_31 (lv_at hl 4 rfl) ?_
                                  refine lv_iadd hx hb dX2_whichList_33 ?_
                                  refine lv_topi (fun x_14 e_x_14 => ?_)
                                  have e_x_14 : x_14 = nI ((64 * 4) + i4) := by rw [e_x_14]; exact nI_add _ _
                                  subst e_x_14
                                  refine va_iald hx hb hK hP 1 0 rfl rfl (vp_in_nI (show (64 * 4) + i4 < 320 by omega) (by decide)) dX2_whichList_34 ?_
                                  refine lv_topi (fun x_16 e_x_16 => ?_)
                                  have e_x_16 : x_16 = f ((64 * 4) + i4) := by rw [e_x_16]; rw [nI_clamp (by omega)]
                                  subst e_x_16
                                  refine lv_iload_n hx hb dX2_whichList_35 rfl (lv_at hl 1 rfl) ?_
                                  refine lv_icmp_ne (tgt := 43) hx hb dX2_whichList_36 (by decide) (fun c_36 => ?_) (fun c_36 => ?_)
                                  · skip
                                    refine lv_iload_n hx hb dX2_whichList_43 rfl (lv_at hl 2 rfl) ?_
                                    refine lv_istore_n (lv' := [(2, .int (nI v4)), (0, .ref (q 0)), (1, .int x), (3, .int (nI 4)), (4, .int (nI i4))]) hx hb dX2_whichList_44 rfl hl (by decide) rfl (fun ls hl => ?_)
                                    refine lv_iinc (v := nI (i4 + 1)) (lv' := [(4, .int (nI (i4 + 1))), (2, .int (nI v4)), (0, .ref (q 0)), (1, .int x), (3, .int (nI 4))]) hx hb dX2_whichList_45 hl (k := 4) rfl (nI_add _ _) (by decide) rfl (fun ls hl => ?_)
                                    refine lv_goto (tgt := 12) hx hb dX2_whichList_48 (by decide) ?_
                                    exact ih (i4 + 1) v4 _ _ _ (by omega) (ha4.elim Or.inl (fun h9 => Or.inr ⟨h9.1, lt_s (p := fun j => f (64 * 4 + j) ≠ x) h9.2 c_36⟩)) (lv_sub hl [2, 3, 1, 4, 0] rfl) hP hD hS (by omega)
                                  · skip
                                    refine lv_iload_n hx hb dX2_whichList_39 rfl (lv_at hl 3 rfl) ?_
                                    refine lv_goto (tgt := 44) hx hb dX2_whichList_40 (by decide) ?_
                                    refine lv_istore_n (lv' := [(2, .int (nI 4)), (0, .ref (q 0)), (1, .int x), (3, .int (nI 4)), (4, .int (nI i4))]) hx hb dX2_whichList_44 rfl hl (by decide) rfl (fun ls hl => ?_)
                                    refine lv_iinc (v := nI (i4 + 1)) (lv' := [(4, .int (nI (i4 + 1))), (2, .int (nI 4)), (0, .ref (q 0)), (1, .int x), (3, .int (nI 4))]) hx hb dX2_whichList_45 hl (k := 4) rfl (nI_add _ _) (by decide) rfl (fun ls hl => ?_)
                                    refine lv_goto (tgt := 12) hx hb dX2_whichList_48 (by decide) ?_
                                    exact ih (i4 + 1) 4 _ _ _ (by omega) (Or.inl ⟨rfl, am_mem (hfm 4 (by decide) (by decide)).2 (by omega) c_36⟩) (lv_sub hl [2, 3, 1, 4, 0] rfl) hP hD hS (by omega)
                            exact loop4 ((L 4).length + 1) 0 v3 ls H _ (Nat.zero_le _) (Or.inr ⟨rfl, fun j hj => absurd hj (Nat.not_lt_zero j)⟩) (lv_sub hl [2, 3, 4, 1, 0] rfl) hP hD hS (by omega)
                        · skip
                          replace c_20 : ¬ (((L 3).length) ≤ i3) := fun h9 => c_20 ((nI_leI (a := (L 3).length) (b := i3) (by omega) (by omega)).mpr h9)
                          refine lv_aload_n hx hb dX2_whichList_23 rfl (lv_at hl 0 rfl) ?_
                          refine va_get (D := (dC, dI)) (ci := 2) (v := .ref (q 1)) (C := RX2) (T := TX2) (N := 10) hx hb hts hwX2 hown hK hP 0 rfl rfl 1 (by decide) (hts (.fieldLink RX2 7 "ArcCacheModel" "lists" "[I") (by decide +kernel)) (fun _ h9 => h9) rfl dX2_whichList_24 ?_
                          refine lv_bipush (v := nI 64) hx hb dX2_whichList_27 (by decide) ?_
                          refine lv_iload_n hx hb dX2_whichList_29 rfl (lv_at hl 3 rfl) ?_
                          refine lv_imul hx hb dX2_whichList_30 ?_
                          refine lv_topi (fun x_17 e_x_17 => ?_)
                          have e_x_17 : x_17 = nI (64 * 3) := by rw [e_x_17]; exact pk_mul _ _
                          subst e_x_17
                          refine lv_iload hx hb dX2_whichList_31 (lv_at hl 4 rfl) ?_
                          refine lv_iadd hx hb dX2_whichList_33 ?_
                          refine lv_topi (fun x_18 e_x_18 => ?_)
                          have e_x_18 : x_18 = nI ((64 * 3) + i3) := by rw [e_x_18]; exact nI_add _ _
                          subst e_x_18
                          refine va_iald hx hb hK hP 1 0 rfl rfl (vp_in_nI (show (64 * 3) + i3 < 320 by omega) (by decide)) dX2_whichList_34 ?_
                          refine lv_topi (fun x_20 e_x_20 => ?_)
                          have e_x_20 : x_20 = f ((64 * 3) + i3) := by rw [e_x_20]; rw [nI_clamp (by omega)]
                          subst e_x_20
                          refine lv_iload_n hx hb dX2_whichList_35 rfl (lv_at hl 1 rfl) ?_
                          refine lv_icmp_ne (tgt := 43) hx hb dX2_whichList_36 (by decide) (fun c_36 => ?_) (fun c_36 => ?_)
                          · skip
                            refine lv_iload_n hx hb dX2_whichList_43 rfl (lv_at hl 2 rfl) ?_
                            refine lv_istore_n (lv' := [(2, .int (nI v3)), (0, .ref (q 0)), (1, .int x), (3, .int (nI 3)), (4, .int (nI i3))]) hx hb dX2_whichList_44 rfl hl (by decide) rfl (fun ls hl => ?_)
                            refine lv_iinc (v := nI (i3 + 1)) (lv' := [(4, .int (nI (i3 + 1))), (2, .int (nI v3)), (0, .ref (q 0)), (1, .int x), (3, .int (nI 3))]) hx hb dX2_whichList_45 hl (k := 4) rfl (nI_add _ _) (by decide) rfl (fun ls hl => ?_)
                            refine lv_goto (tgt := 12) hx hb dX2_whichList_48 (by decide) ?_
                            exact ih (i3 + 1) v3 _ _ _ (by omega) (ha3.elim Or.inl (fun h9 => Or.inr ⟨h9.1, lt_s (p := fun j => f (64 * 3 + j) ≠ x) h9.2 c_36⟩)) (lv_sub hl [2, 3, 1, 4, 0] rfl) hP hD hS (by omega)
                          · skip
                            refine lv_iload_n hx hb dX2_whichList_39 rfl (lv_at hl 3 rfl) ?_
                            refine lv_goto (tgt := 44) hx hb dX2_whichList_40 (by decide) ?_
                            refine lv_istore_n (lv' := [(2, .int (nI 3)), (0, .ref (q 0)), (1, .int x), (3, .int (nI 3)), (4, .int (nI i3))]) hx hb dX2_whichList_44 rfl hl (by decide) rfl (fun ls hl => ?_)
                            refine lv_iinc (v := nI (i3 + 1)) (lv' := [(4, .int (nI (i3 + 1))), (2, .int (nI 3)), (0, .ref (q 0)), (1, .int x), (3, .int (nI 3))]) hx hb dX2_whichList_45 hl (k := 4) rfl (nI_add _ _) (by decide) rfl (fun ls hl => ?_)
                            refine lv_goto (tgt := 12) hx hb dX2_whichList_48 (by decide) ?_
                            exact ih (i3 + 1) 3 _ _ _ (by omega) (Or.inl ⟨rfl, am_mem (hfm 3 (by decide) (by decide)).2 (by omega) c_36⟩) (lv_sub hl [2, 3, 1, 4, 0] rfl) hP hD hS (by omega)
                    exact loop3 ((L 3).length + 1) 0 v2 ls H _ (Nat.zero_le _) (Or.inr ⟨rfl, fun j hj => absurd hj (Nat.not_lt_zero j)⟩) (lv_sub hl [2, 3, 4, 1, 0] rfl) hP hD hS (by omega)
                · skip
                  replace c_20 : ¬ (((L 2).length) ≤ i2) := fun h9 => c_20 ((nI_leI (a := (L 2).length) (b := i2) (by omega) (by omega)).mpr h9)
                  refine lv_aload_n hx hb dX2_whichList_23 rfl (lv_at hl 0 rfl) ?_
                  refine va_get (D := (dC, dI)) (ci := 2) (v := .ref (q 1)) (C := RX2) (T := TX2) (N := 10) hx hb hts hwX2 hown hK hP 0 rfl rfl 1 (by decide) (hts (.fieldLink RX2 7 "ArcCacheModel" "lists" "[I") (by decide +kernel)) (fun _ h9 => h9) rfl dX2_whichList_24 ?_
                  refine lv_bipush (v := nI 64) hx hb dX2_whichList_27 (by decide) ?_
                  refine lv_iload_n hx hb dX2_whichList_29 rfl (lv_at hl 3 rfl) ?_
                  refine lv_imul hx hb dX2_whichList_30 ?_
                  refine lv_topi (fun x_21 e_x_21 => ?_)
                  have e_x_21 : x_21 = nI (64 * 2) := by rw [e_x_21]; exact pk_mul _ _
                  subst e_x_21
                  refine lv_iload hx hb dX2_whichList_31 (lv_at hl 4 rfl) ?_
                  refine lv_iadd hx hb dX2_whichList_33 ?_
                  refine lv_topi (fun x_22 e_x_22 => ?_)
                  have e_x_22 : x_22 = nI ((64 * 2) + i2) := by rw [e_x_22]; exact nI_add _ _
                  subst e_x_22
                  refine va_iald hx hb hK hP 1 0 rfl rfl (vp_in_nI (show (64 * 2) + i2 < 320 by omega) (by decide)) dX2_whichList_34 ?_
                  refine lv_topi (fun x_24 e_x_24 => ?_)
                  have e_x_24 : x_24 = f ((64 * 2) + i2) := by rw [e_x_24]; rw [nI_clamp (by omega)]
                  subst e_x_24
                  refine lv_iload_n hx hb dX2_whichList_35 rfl (lv_at hl 1 rfl) ?_
                  refine lv_icmp_ne (tgt := 43) hx hb dX2_whichList_36 (by decide) (fun c_36 => ?_) (fun c_36 => ?_)
                  · skip
                    refine lv_iload_n hx hb dX2_whichList_43 rfl (lv_at hl 2 rfl) ?_
                    refine lv_istore_n (lv' := [(2, .int (nI v2)), (0, .ref (q 0)), (1, .int x), (3, .int (nI 2)), (4, .int (nI i2))]) hx hb dX2_whichList_44 rfl hl (by decide) rfl (fun ls hl => ?_)
                    refine lv_iinc (v := nI (i2 + 1)) (lv' := [(4, .int (nI (i2 + 1))), (2, .int (nI v2)), (0, .ref (q 0)), (1, .int x), (3, .int (nI 2))]) hx hb dX2_whichList_45 hl (k := 4) rfl (nI_add _ _) (by decide) rfl (fun ls hl => ?_)
                    refine lv_goto (tgt := 12) hx hb dX2_whichList_48 (by decide) ?_
                    exact ih (i2 + 1) v2 _ _ _ (by omega) (ha2.elim Or.inl (fun h9 => Or.inr ⟨h9.1, lt_s (p := fun j => f (64 * 2 + j) ≠ x) h9.2 c_36⟩)) (lv_sub hl [2, 3, 1, 4, 0] rfl) hP hD hS (by omega)
                  · skip
                    refine lv_iload_n hx hb dX2_whichList_39 rfl (lv_at hl 3 rfl) ?_
                    refine lv_goto (tgt := 44) hx hb dX2_whichList_40 (by decide) ?_
                    refine lv_istore_n (lv' := [(2, .int (nI 2)), (0, .ref (q 0)), (1, .int x), (3, .int (nI 2)), (4, .int (nI i2))]) hx hb dX2_whichList_44 rfl hl (by decide) rfl (fun ls hl => ?_)
                    refine lv_iinc (v := nI (i2 + 1)) (lv' := [(4, .int (nI (i2 + 1))), (2, .int (nI 2)), (0, .ref (q 0)), (1, .int x), (3, .int (nI 2))]) hx hb dX2_whichList_45 hl (k := 4) rfl (nI_add _ _) (by decide) rfl (fun ls hl => ?_)
                    refine lv_goto (tgt := 12) hx hb dX2_whichList_48 (by decide) ?_
                    exact ih (i2 + 1) 2 _ _ _ (by omega) (Or.inl ⟨rfl, am_mem (hfm 2 (by decide) (by decide)).2 (by omega) c_36⟩) (lv_sub hl [2, 3, 1, 4, 0] rfl) hP hD hS (by omega)
            exact loop2 ((L 2).length + 1) 0 v1 ls H _ (Nat.zero_le _) (Or.inr ⟨rfl, fun j hj => absurd hj (Nat.not_lt_zero j)⟩) (lv_sub hl [2, 3, 4, 1, 0] rfl) hP hD hS (by omega)
        · skip
          replace c_20 : ¬ (((L 1).length) ≤ i1) := fun h9 => c_20 ((nI_leI (a := (L 1).length) (b := i1) (by omega) (by omega)).mpr h9)
          refine lv_aload_n hx hb dX2_whichList_23 rfl (lv_at hl 0 rfl) ?_
          refine va_get (D := (dC, dI)) (ci := 2) (v := .ref (q 1)) (C := RX2) (T := TX2) (N := 10) hx hb hts hwX2 hown hK hP 0 rfl rfl 1 (by decide) (hts (.fieldLink RX2 7 "ArcCacheModel" "lists" "[I") (by decide +kernel)) (fun _ h9 => h9) rfl dX2_whichList_24 ?_
          refine lv_bipush (v := nI 64) hx hb dX2_whichList_27 (by decide) ?_
          refine lv_iload_n hx hb dX2_whichList_29 rfl (lv_at hl 3 rfl) ?_
          refine lv_imul hx hb dX2_whichList_30 ?_
          refine lv_topi (fun x_25 e_x_25 => ?_)
          have e_x_25 : x_25 = nI (64 * 1) := by rw [e_x_25]; exact pk_mul _ _
          subst e_x_25
          refine lv_iload hx hb dX2_whichList_31 (lv_at hl 4 rfl) ?_
          refine lv_iadd hx hb dX2_whichList_33 ?_
          refine lv_topi (fun x_26 e_x_26 => ?_)
          have e_x_26 : x_26 = nI ((64 * 1) + i1) := by rw [e_x_26]; exact nI_add _ _
          subst e_x_26
          refine va_iald hx hb hK hP 1 0 rfl rfl (vp_in_nI (show (64 * 1) + i1 < 320 by omega) (by decide)) dX2_whichList_34 ?_
          refine lv_topi (fun x_28 e_x_28 => ?_)
          have e_x_28 : x_28 = f ((64 * 1) + i1) := by rw [e_x_28]; rw [nI_clamp (by omega)]
          subst e_x_28
          refine lv_iload_n hx hb dX2_whichList_35 rfl (lv_at hl 1 rfl) ?_
          refine lv_icmp_ne (tgt := 43) hx hb dX2_whichList_36 (by decide) (fun c_36 => ?_) (fun c_36 => ?_)
          · skip
            refine lv_iload_n hx hb dX2_whichList_43 rfl (lv_at hl 2 rfl) ?_
            refine lv_istore_n (lv' := [(2, .int (nI v1)), (0, .ref (q 0)), (1, .int x), (3, .int (nI 1)), (4, .int (nI i1))]) hx hb dX2_whichList_44 rfl hl (by decide) rfl (fun ls hl => ?_)
            refine lv_iinc (v := nI (i1 + 1)) (lv' := [(4, .int (nI (i1 + 1))), (2, .int (nI v1)), (0, .ref (q 0)), (1, .int x), (3, .int (nI 1))]) hx hb dX2_whichList_45 hl (k := 4) rfl (nI_add _ _) (by decide) rfl (fun ls hl => ?_)
            refine lv_goto (tgt := 12) hx hb dX2_whichList_48 (by decide) ?_
            exact ih (i1 + 1) v1 _ _ _ (by omega) (ha1.elim Or.inl (fun h9 => Or.inr ⟨h9.1, lt_s (p := fun j => f (64 * 1 + j) ≠ x) h9.2 c_36⟩)) (lv_sub hl [2, 3, 1, 4, 0] rfl) hP hD hS (by omega)
          · skip
            refine lv_iload_n hx hb dX2_whichList_39 rfl (lv_at hl 3 rfl) ?_
            refine lv_goto (tgt := 44) hx hb dX2_whichList_40 (by decide) ?_
            refine lv_istore_n (lv' := [(2, .int (nI 1)), (0, .ref (q 0)), (1, .int x), (3, .int (nI 1)), (4, .int (nI i1))]) hx hb dX2_whichList_44 rfl hl (by decide) rfl (fun ls hl => ?_)
            refine lv_iinc (v := nI (i1 + 1)) (lv' := [(4, .int (nI (i1 + 1))), (2, .int (nI 1)), (0, .ref (q 0)), (1, .int x), (3, .int (nI 1))]) hx hb dX2_whichList_45 hl (k := 4) rfl (nI_add _ _) (by decide) rfl (fun ls hl => ?_)
            refine lv_goto (tgt := 12) hx hb dX2_whichList_48 (by decide) ?_
            exact ih (i1 + 1) 1 _ _ _ (by omega) (Or.inl ⟨rfl, am_mem (hfm 1 (by decide) (by decide)).2 (by omega) c_36⟩) (lv_sub hl [2, 3, 1, 4, 0] rfl) hP hD hS (by omega)
    exact loop1 ((L 1).length + 1) 0 0 ls H _ (Nat.zero_le _) (Or.inr ⟨rfl, fun j hj => absurd hj (Nat.not_lt_zero j)⟩) (lv_sub hl [3, 4, 2, 1, 0] rfl) hP hD hS (by omega)
