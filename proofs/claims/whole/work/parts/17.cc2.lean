-- a constructor, or what it calls
set_option maxHeartbeats 4000000 in
set_option maxRecDepth 100000 in
theorem c_J_floorMod (l : Launch) (dC : Nat → ClassId) (dI : Nat → Nat → Nat) (x : Int32) (sz : Nat)  : Met l yJ9_floorMod_7cf53 wsJ9_floorMod_7cf53 ({ frames := 0, cells := 0, slots := 0, locals := 0 }) (va_Pc [.int x, .int (nI 24)] (fun U => U.heap.size = sz)) (va_Qi (fun (r : Int32) (_ : Unit) => r = nI (ap_r x)) (fun _ _ => True) (va_A [] sz)) 0 0 (va_A [] sz) := by
  refine va_MetF (cc := cJ9_floorMod_7cf53) (maxL := 3) (ret := (some .int)) (by decide +kernel) rfl ?_
  intro p e s m args below meth c s₁ B hml hv
  obtain ⟨rfl, hsz⟩ := hv
  have hx := B.exec
  have hb := B.bytes
  have hr := B.returns
  have hts := atoms_spec (ws := wsJ9_floorMod_7cf53) B.pre
  have hown : s.vm.findClass RJ9 = some m.cls := findClass_of_methodNamed B.named
  have hlocks := B.notSynchronized
  subst hsz
  have hP : va_P (dC, dI) vwCl [] s.heap := fun k q h => by simp at h
  have hD : va_D (va_A [] s.heap.size) [] := ⟨fun i j p q h => by simp at h, fun k q h => by simp at h⟩
  generalize hAe : va_A [] s.heap.size = A at hD ⊢
  have hA : ∀ q : Nat, s.heap.size ≤ q → A q := fun q h => by rw [← hAe]; exact Or.inr h
  have hS0 : ∀ H, s.heap = H → va_S A s.heap H [] := fun H h => by subst h; exact va_S.rf
  have hl := lv_entry ([.int x, .int (nI 24)]) (n := 3) (Nat.le_of_ble_eq_true rfl)
  rw [lg_entry_eq]
  generalize (lg_sl ([.int x, .int (nI 24)]) ++ List.replicate (3 - (lg_sl ([.int x, .int (nI 24)])).length) Slot.unset).toArray = ls at hl ⊢
  have hl : lv_has ls 3 [(0, .int x), (1, .int (nI 24))] := hl
  generalize hHe : s.heap = H at hP ⊢
  have hS := hS0 H hHe
  refine lv_iload_n hx hb dJ9_floorMod_7cf53_0 rfl (lv_at hl 0 rfl) ?_
  refine lv_iload_n hx hb dJ9_floorMod_7cf53_1 rfl (lv_at hl 1 rfl) ?_
  obtain ⟨i, hi47, ei, er, hp23, hn23⟩ := ap_rem x
  obtain ⟨hf2, hf3, hf4, hf5⟩ := ap_rem_f ⟨i, hi47⟩
  dsimp only at hf2 hf3 hf4 hf5
  refine lv_irem hx hb dJ9_floorMod_7cf53_2 (by decide) ?_
  refine lv_topi (fun x_1 e_x_1 => ?_)
  have e_x_1 : x_1 = Int32.ofInt ((i : Int) - 23) := by rw [e_x_1]; exact ei
  subst e_x_1
  refine lv_istore_n (lv' := [(2, .int (Int32.ofInt ((i : Int) - 23))), (0, .int x), (1, .int (nI 24))]) hx hb dJ9_floorMod_7cf53_3 rfl hl (by decide) rfl (fun ls hl => ?_)
  refine lv_iload_n hx hb dJ9_floorMod_7cf53_4 rfl (lv_at hl 1 rfl) ?_
  refine lv_iload_n hx hb dJ9_floorMod_7cf53_5 rfl (lv_at hl 2 rfl) ?_
  refine lv_ixor hx hb dJ9_floorMod_7cf53_6 ?_
  refine lv_if_ge (tgt := 18) hx hb dJ9_floorMod_7cf53_7 (by decide) (fun c_7 => ?_) (fun c_7 => ?_)
  · skip
    have hfin9 : Int32.ofInt ((i : Int) - 23) = nI (ap_r x) := by have h9 := hp23 ((ap_xs x).mp c_7); rw [er, if_pos h9]; exact hf2 h9
    refine lv_iload_n hx hb dJ9_floorMod_7cf53_18 rfl (lv_at hl 0 rfl) ?_
    exact W.iret (v := Int32.ofInt ((i : Int) - 23)) hx hb hr (fun t ht hW => ⟨⟨Int32.ofInt ((i : Int) - 23), (), rfl, hfin9, trivial⟩, hS.F ht⟩) hS.2.2 dJ9_floorMod_7cf53_19
  · skip
    refine lv_iload_n hx hb dJ9_floorMod_7cf53_10 rfl (lv_at hl 0 rfl) ?_
    refine lv_if_eq (tgt := 18) hx hb dJ9_floorMod_7cf53_11 (by decide) (fun c_11 => ?_) (fun c_11 => ?_)
    · skip
      have hfin9 : Int32.ofInt ((i : Int) - 23) = nI (ap_r x) := by have h9 := hf5.mp c_11; rw [er, if_pos (by omega)]; exact hf2 (by omega)
      refine lv_iload_n hx hb dJ9_floorMod_7cf53_18 rfl (lv_at hl 0 rfl) ?_
      exact W.iret (v := Int32.ofInt ((i : Int) - 23)) hx hb hr (fun t ht hW => ⟨⟨Int32.ofInt ((i : Int) - 23), (), rfl, hfin9, trivial⟩, hS.F ht⟩) hS.2.2 dJ9_floorMod_7cf53_19
    · skip
      have hfin9 : Int32.ofInt ((i : Int) - 23) + nI 24 = nI (ap_r x) := by have h8 := hn23 (fun h7 => c_7 ((ap_xs x).mpr h7)); have h9 : ¬ 23 ≤ i := fun h7 => c_11 (hf5.mpr (by omega)); rw [er, if_neg h9]; exact hf3 h9
      refine lv_iload_n hx hb dJ9_floorMod_7cf53_14 rfl (lv_at hl 0 rfl) ?_
      refine lv_iload_n hx hb dJ9_floorMod_7cf53_15 rfl (lv_at hl 2 rfl) ?_
      refine lv_iadd hx hb dJ9_floorMod_7cf53_16 ?_
      exact W.iret (v := (Int32.ofInt ((i : Int) - 23)) + (nI 24)) hx hb hr (fun t ht hW => ⟨⟨(Int32.ofInt ((i : Int) - 23)) + (nI 24), (), rfl, hfin9, trivial⟩, hS.F ht⟩) hS.2.2 dJ9_floorMod_7cf53_17
