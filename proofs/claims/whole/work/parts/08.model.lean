set_option maxHeartbeats 1000000 in
set_option maxRecDepth 100000 in
/-- the reference: put -/
theorem c_mput (l : Launch) (dC : Nat → ClassId) (dI : Nat → Nat → Nat) (sz : Nat) (g0 g1 g2 : Nat) (cC cD : ClassId) (u : Bk_) (b : Int32) (hu : mb_inv u) : Met l yX1_put wsX1_put ({ frames := 0, cells := 0, slots := 0, locals := 0 }) (va_Pc [.ref g0, .int b] (fun U => U.heap.size = sz ∧ va_P (dC, dI) vwCl [(g0, .inr (1, [.int 0, .ref g1, .ref g2, .int u.2.2])), (g1, .inl (cC, 4096, .inl (fun jx => mb_sg (u.1 jx)))), (g2, .inl (cD, 512, .inl (fun jx => mb_sg (u.2.1 jx))))] U.heap ∧ va_K (dC, dI) vwCl [(cC, .byte), (cD, .byte)] U ∧ va_D (fun _ => True) [(g0, .inr (1, [.int 0, .ref g1, .ref g2, .int u.2.2])), (g1, .inl (cC, 4096, .inl (fun jx => mb_sg (u.1 jx)))), (g2, .inl (cD, 512, .inl (fun jx => mb_sg (u.2.1 jx))))])) (va_Qi (fun (r : Int32) (u2 : Bk_) => mb_put u b = (r, u2)) (at_W dC dI (va_A [(g0, .inr (1, [.int 0, .ref g1, .ref g2, .int u.2.2])), (g1, .inl (cC, 4096, .inl (fun jx => mb_sg (u.1 jx)))), (g2, .inl (cD, 512, .inl (fun jx => mb_sg (u.2.1 jx))))] sz) [(cC, .byte), (cD, .byte)] (bw_X1 g0 g1 g2 cC cD)) (va_A [(g0, .inr (1, [.int 0, .ref g1, .ref g2, .int u.2.2])), (g1, .inl (cC, 4096, .inl (fun jx => mb_sg (u.1 jx)))), (g2, .inl (cD, 512, .inl (fun jx => mb_sg (u.2.1 jx))))] sz)) 0 0 (va_A [(g0, .inr (1, [.int 0, .ref g1, .ref g2, .int u.2.2])), (g1, .inl (cC, 4096, .inl (fun jx => mb_sg (u.1 jx)))), (g2, .inl (cD, 512, .inl (fun jx => mb_sg (u.2.1 jx))))] sz) := by
  refine Met.ofW (cc := cX1_put) (maxL := 2) (ret := (some .int)) (by decide) rfl ?_
  intro p e s m args below meth c s₁ B hml hv
  obtain ⟨rfl, hsz, hP, hK, hD0⟩ := hv
  have hx := B.exec
  have hb := B.bytes
  have hr := B.returns
  have hts := atoms_spec (ws := wsX1_put) B.pre
  have hown : s.vm.findClass RX1 = some m.cls := findClass_of_methodNamed B.named
  have hlocks := B.notSynchronized
  subst hsz
  have hD := hD0.self (sz := s.heap.size)
  generalize hAe : va_A [(g0, .inr (1, [.int 0, .ref g1, .ref g2, .int u.2.2])), (g1, .inl (cC, 4096, .inl (fun jx => mb_sg (u.1 jx)))), (g2, .inl (cD, 512, .inl (fun jx => mb_sg (u.2.1 jx))))] s.heap.size = A at hD ⊢
  have hA : ∀ q : Nat, s.heap.size ≤ q → A q := fun q h => by rw [← hAe]; exact Or.inr h
  have hS : va_S A s.heap s.heap [] := va_S.rf
  have hP : va_P (dC, dI) vwCl [(g0, .inr (1, [.int 0, .ref g1, .ref g2, .int u.2.2])), (g1, .inl (cC, 4096, .inl (fun jx => mb_sg (u.1 jx)))), (g2, .inl (cD, 512, .inl (fun jx => mb_sg (u.2.1 jx))))] s.heap := hP
  have hl := lv_entry ([.ref g0, .int b]) (n := 2) (Nat.le_of_ble_eq_true rfl)
  rw [lg_entry_eq]
  generalize (lg_sl ([.ref g0, .int b]) ++ List.replicate (2 - (lg_sl ([.ref g0, .int b])).length) Slot.unset).toArray = ls at hl ⊢
  have hl : lv_has ls 2 [(0, .ref g0), (1, .int b)] := hl
  have hu0 := hu.1.1
  have hu2 := hu.1.2
  refine lv_aload_n hx hb dX1_put_0 rfl (lv_at hl 0 rfl) ?_
  refine lv_iconst (v := 0) hx hb dX1_put_1 (by decide) ?_
  refine va_put (D := (dC, dI)) (ci := 1) (v := .int 0) (ty := .int) (C := RX1) (T := TX1) (N := 4) hx hb hts (by decide +kernel) tyX1 tyX1_ok nmX1 hown hK hP hD hS 0 rfl rfl 0 (by decide) (hts (.fieldLink RX1 16 "MemoryBankModel" "thrown" "I") (by decide +kernel)) (fun _ h9 => h9) rfl (by decide +kernel) rfl rfl (Nat.le_of_ble_eq_true rfl) dX1_put_2 (fun H locs hP hD hS => ?_)
  have hP : va_P (dC, dI) vwCl [(g0, .inr (1, [.int 0, .ref g1, .ref g2, .int u.2.2])), (g1, .inl (cC, 4096, .inl (fun jx => mb_sg (u.1 jx)))), (g2, .inl (cD, 512, .inl (fun jx => mb_sg (u.2.1 jx))))] H := hP
  have hD : va_D A [(g0, .inr (1, [.int 0, .ref g1, .ref g2, .int u.2.2])), (g1, .inl (cC, 4096, .inl (fun jx => mb_sg (u.1 jx)))), (g2, .inl (cD, 512, .inl (fun jx => mb_sg (u.2.1 jx))))] := hD
  refine lv_aload_n hx hb dX1_put_5 rfl (lv_at hl 0 rfl) ?_
  refine va_get (D := (dC, dI)) (ci := 1) (v := .int u.2.2) (C := RX1) (T := TX1) (N := 4) hx hb hts (by decide +kernel) hown hK hP 0 rfl rfl 3 (by decide) (hts (.fieldLink RX1 21 "MemoryBankModel" "size" "I") (by decide +kernel)) (fun _ h9 => h9) rfl dX1_put_6 ?_
  refine lv_sipush (v := 512) hx hb dX1_put_9 (by decide) ?_
  refine lv_icmp_ne (tgt := 17) hx hb dX1_put_12 (by decide) (fun c1 => ?_) (fun c1 => ?_)
  · have hz : u.2.2.toInt ≠ 512 := fun q => c1 (Int32.toInt_inj.mp (q.trans mb_512.symm))
    have c2 : ¬ mb_room 1 u.2.2 = 0 := (mb_room_iff hu0).mpr (by rw [mb_1]; omega)
    refine lv_aload_n hx hb dX1_put_17 rfl (lv_at hl 0 rfl) ?_
    refine va_get (D := (dC, dI)) (ci := 1) (v := .ref g2) (C := RX1) (T := TX1) (N := 4) hx hb hts (by decide +kernel) hown hK hP 0 rfl rfl 2 (by decide) (hts (.fieldLink RX1 13 "MemoryBankModel" "row" "[B") (by decide +kernel)) (fun _ h9 => h9) rfl dX1_put_18 ?_
    refine lv_aload_n hx hb dX1_put_21 rfl (lv_at hl 0 rfl) ?_
    refine va_get (D := (dC, dI)) (ci := 1) (v := .int u.2.2) (C := RX1) (T := TX1) (N := 4) hx hb hts (by decide +kernel) hown hK hP 0 rfl rfl 3 (by decide) (hts (.fieldLink RX1 21 "MemoryBankModel" "size" "I") (by decide +kernel)) (fun _ h9 => h9) rfl dX1_put_22 ?_
    refine lv_iload_n hx hb dX1_put_25 rfl (lv_at hl 1 rfl) ?_
    refine lv_i2b (v := b.toInt8.toInt32) hx hb dX1_put_26 rfl ?_
    refine va_bast hx hb hK hP hD hS 2 1 rfl rfl (mb_in hu0 (by omega)) dX1_put_27 (fun H locs hP hD hS => ?_)
    have ew : upd (fun jx => mb_sg (u.2.1 jx)) (u.2.2).toNatClampNeg (vp_nar .byte b.toInt8.toInt32) = (fun jx => mb_sg ((mb_app u b).2.1 jx)) := by rw [pk_vb, ← mb_sgand]; exact mb_sgupd _ _ _
    have hP : va_P (dC, dI) vwCl [(g0, .inr (1, [.int 0, .ref g1, .ref g2, .int u.2.2])), (g1, .inl (cC, 4096, .inl (fun jx => mb_sg (u.1 jx)))), (g2, .inl (cD, 512, .inl (upd (fun jx => mb_sg (u.2.1 jx)) (u.2.2).toNatClampNeg (vp_nar .byte b.toInt8.toInt32))))] H := hP
    have hD : va_D A [(g0, .inr (1, [.int 0, .ref g1, .ref g2, .int u.2.2])), (g1, .inl (cC, 4096, .inl (fun jx => mb_sg (u.1 jx)))), (g2, .inl (cD, 512, .inl (upd (fun jx => mb_sg (u.2.1 jx)) (u.2.2).toNatClampNeg (vp_nar .byte b.toInt8.toInt32))))] := hD
    rw [ew] at hP hD
    clear ew
    have hP : va_P (dC, dI) vwCl [(g0, .inr (1, [.int 0, .ref g1, .ref g2, .int u.2.2])), (g1, .inl (cC, 4096, .inl (fun jx => mb_sg (u.1 jx)))), (g2, .inl (cD, 512, .inl (fun jx => mb_sg ((mb_app u b).2.1 jx))))] H := hP
    have hD : va_D A [(g0, .inr (1, [.int 0, .ref g1, .ref g2, .int u.2.2])), (g1, .inl (cC, 4096, .inl (fun jx => mb_sg (u.1 jx)))), (g2, .inl (cD, 512, .inl (fun jx => mb_sg ((mb_app u b).2.1 jx))))] := hD
    refine lv_aload_n hx hb dX1_put_28 rfl (lv_at hl 0 rfl) ?_
    refine lv_dup hx hb dX1_put_29 rfl ?_
    refine va_get (D := (dC, dI)) (ci := 1) (v := .int u.2.2) (C := RX1) (T := TX1) (N := 4) hx hb hts (by decide +kernel) hown hK hP 0 rfl rfl 3 (by decide) (hts (.fieldLink RX1 21 "MemoryBankModel" "size" "I") (by decide +kernel)) (fun _ h9 => h9) rfl dX1_put_30 ?_
    refine lv_iconst (v := 1) hx hb dX1_put_33 (by decide) ?_
    refine lv_iadd hx hb dX1_put_34 ?_
    refine va_put (D := (dC, dI)) (ci := 1) (v := .int (u.2.2 + 1)) (ty := .int) (C := RX1) (T := TX1) (N := 4) hx hb hts (by decide +kernel) tyX1 tyX1_ok nmX1 hown hK hP hD hS 0 rfl rfl 3 (by decide) (hts (.fieldLink RX1 21 "MemoryBankModel" "size" "I") (by decide +kernel)) (fun _ h9 => h9) rfl (by decide +kernel) rfl rfl (Nat.le_of_ble_eq_true rfl) dX1_put_35 (fun H locs hP hD hS => ?_)
    have hP : va_P (dC, dI) vwCl [(g0, .inr (1, [.int 0, .ref g1, .ref g2, .int (u.2.2 + 1)])), (g1, .inl (cC, 4096, .inl (fun jx => mb_sg (u.1 jx)))), (g2, .inl (cD, 512, .inl (fun jx => mb_sg ((mb_app u b).2.1 jx))))] H := hP
    have hD : va_D A [(g0, .inr (1, [.int 0, .ref g1, .ref g2, .int (u.2.2 + 1)])), (g1, .inl (cC, 4096, .inl (fun jx => mb_sg (u.1 jx)))), (g2, .inl (cD, 512, .inl (fun jx => mb_sg ((mb_app u b).2.1 jx))))] := hD
    refine lv_aload_n hx hb dX1_put_38 rfl (lv_at hl 0 rfl) ?_
    refine va_get (D := (dC, dI)) (ci := 1) (v := .int (u.2.2 + 1)) (C := RX1) (T := TX1) (N := 4) hx hb hts (by decide +kernel) hown hK hP 0 rfl rfl 3 (by decide) (hts (.fieldLink RX1 21 "MemoryBankModel" "size" "I") (by decide +kernel)) (fun _ h9 => h9) rfl dX1_put_39 ?_
    have hP9 := hP.sub (ws' := [(g0, .inr (1, [.int 0, .ref g1, .ref g2, .int (u.2.2 + 1)])), (g1, .inl (cC, 4096, .inl (fun jx => mb_sg (u.1 jx)))), (g2, .inl (cD, 512, .inl (fun jx => mb_sg ((mb_app u b).2.1 jx))))]) [0, 1, 2] rfl
    have hD9 := hD.sub (ws' := [(g0, .inr (1, [.int 0, .ref g1, .ref g2, .int (u.2.2 + 1)])), (g1, .inl (cC, 4096, .inl (fun jx => mb_sg (u.1 jx)))), (g2, .inl (cD, 512, .inl (fun jx => mb_sg ((mb_app u b).2.1 jx))))]) [0, 1, 2] (by decide) rfl
    exact W.iret (v := (u.2.2 + 1)) hx hb hr (fun t ht hW => ⟨⟨(u.2.2 + 1), mb_app u b, rfl, by unfold mb_put; rw [if_neg c2], by rw [ht]; exact hP9, va_K.moved hW.alike hK, hD9⟩, hS.F ht⟩) hS.2.2 dX1_put_42
  · have c2 : mb_room 1 u.2.2 = 0 := by rw [c1]; decide
    refine lv_iconst (v := (-1)) hx hb dX1_put_15 (by decide) ?_
    have hP9 := hP.sub (ws' := [(g0, .inr (1, [.int 0, .ref g1, .ref g2, .int u.2.2])), (g1, .inl (cC, 4096, .inl (fun jx => mb_sg (u.1 jx)))), (g2, .inl (cD, 512, .inl (fun jx => mb_sg (u.2.1 jx))))]) [0, 1, 2] rfl
    have hD9 := hD.sub (ws' := [(g0, .inr (1, [.int 0, .ref g1, .ref g2, .int u.2.2])), (g1, .inl (cC, 4096, .inl (fun jx => mb_sg (u.1 jx)))), (g2, .inl (cD, 512, .inl (fun jx => mb_sg (u.2.1 jx))))]) [0, 1, 2] (by decide) rfl
    exact W.iret (v := (-1)) hx hb hr (fun t ht hW => ⟨⟨(-1), u, rfl, by unfold mb_put; rw [if_pos c2], by rw [ht]; exact hP9, va_K.moved hW.alike hK, hD9⟩, hS.F ht⟩) hS.2.2 dX1_put_16
set_option maxHeartbeats 1000000 in
set_option maxRecDepth 100000 in
/-- the reference: cut -/
theorem c_mcut (l : Launch) (dC : Nat → ClassId) (dI : Nat → Nat → Nat) (sz : Nat) (g0 g1 g2 : Nat) (cC cD : ClassId) (u : Bk_) (n : Int32) (hu : mb_inv u) : Met l yX1_cut wsX1_cut ({ frames := 0, cells := 0, slots := 0, locals := 0 }) (va_Pc [.ref g0, .int n] (fun U => U.heap.size = sz ∧ va_P (dC, dI) vwCl [(g0, .inr (1, [.int 0, .ref g1, .ref g2, .int u.2.2])), (g1, .inl (cC, 4096, .inl (fun jx => mb_sg (u.1 jx)))), (g2, .inl (cD, 512, .inl (fun jx => mb_sg (u.2.1 jx))))] U.heap ∧ va_K (dC, dI) vwCl [(cC, .byte), (cD, .byte)] U ∧ va_D (fun _ => True) [(g0, .inr (1, [.int 0, .ref g1, .ref g2, .int u.2.2])), (g1, .inl (cC, 4096, .inl (fun jx => mb_sg (u.1 jx)))), (g2, .inl (cD, 512, .inl (fun jx => mb_sg (u.2.1 jx))))])) (va_Qi (fun (r : Int32) (u2 : Bk_) => mb_cut u n = (r, u2)) (at_W dC dI (va_A [(g0, .inr (1, [.int 0, .ref g1, .ref g2, .int u.2.2])), (g1, .inl (cC, 4096, .inl (fun jx => mb_sg (u.1 jx)))), (g2, .inl (cD, 512, .inl (fun jx => mb_sg (u.2.1 jx))))] sz) [(cC, .byte), (cD, .byte)] (bw_X1 g0 g1 g2 cC cD)) (va_A [(g0, .inr (1, [.int 0, .ref g1, .ref g2, .int u.2.2])), (g1, .inl (cC, 4096, .inl (fun jx => mb_sg (u.1 jx)))), (g2, .inl (cD, 512, .inl (fun jx => mb_sg (u.2.1 jx))))] sz)) 0 0 (va_A [(g0, .inr (1, [.int 0, .ref g1, .ref g2, .int u.2.2])), (g1, .inl (cC, 4096, .inl (fun jx => mb_sg (u.1 jx)))), (g2, .inl (cD, 512, .inl (fun jx => mb_sg (u.2.1 jx))))] sz) := by
  refine Met.ofW (cc := cX1_cut) (maxL := 2) (ret := (some .boolean)) (by decide) rfl ?_
  intro p e s m args below meth c s₁ B hml hv
  obtain ⟨rfl, hsz, hP, hK, hD0⟩ := hv
  have hx := B.exec
  have hb := B.bytes
  have hr := B.returns
  have hts := atoms_spec (ws := wsX1_cut) B.pre
  have hown : s.vm.findClass RX1 = some m.cls := findClass_of_methodNamed B.named
  have hlocks := B.notSynchronized
  subst hsz
  have hD := hD0.self (sz := s.heap.size)
  generalize hAe : va_A [(g0, .inr (1, [.int 0, .ref g1, .ref g2, .int u.2.2])), (g1, .inl (cC, 4096, .inl (fun jx => mb_sg (u.1 jx)))), (g2, .inl (cD, 512, .inl (fun jx => mb_sg (u.2.1 jx))))] s.heap.size = A at hD ⊢
  have hA : ∀ q : Nat, s.heap.size ≤ q → A q := fun q h => by rw [← hAe]; exact Or.inr h
  have hS : va_S A s.heap s.heap [] := va_S.rf
  have hP : va_P (dC, dI) vwCl [(g0, .inr (1, [.int 0, .ref g1, .ref g2, .int u.2.2])), (g1, .inl (cC, 4096, .inl (fun jx => mb_sg (u.1 jx)))), (g2, .inl (cD, 512, .inl (fun jx => mb_sg (u.2.1 jx))))] s.heap := hP
  have hl := lv_entry ([.ref g0, .int n]) (n := 2) (Nat.le_of_ble_eq_true rfl)
  rw [lg_entry_eq]
  generalize (lg_sl ([.ref g0, .int n]) ++ List.replicate (2 - (lg_sl ([.ref g0, .int n])).length) Slot.unset).toArray = ls at hl ⊢
  have hl : lv_has ls 2 [(0, .ref g0), (1, .int n)] := hl
  have hu0 := hu.1.1
  have hu2 := hu.1.2
  refine lv_aload_n hx hb dX1_cut_0 rfl (lv_at hl 0 rfl) ?_
  refine lv_iconst (v := 0) hx hb dX1_cut_1 (by decide) ?_
  refine va_put (D := (dC, dI)) (ci := 1) (v := .int 0) (ty := .int) (C := RX1) (T := TX1) (N := 4) hx hb hts (by decide +kernel) tyX1 tyX1_ok nmX1 hown hK hP hD hS 0 rfl rfl 0 (by decide) (hts (.fieldLink RX1 16 "MemoryBankModel" "thrown" "I") (by decide +kernel)) (fun _ h9 => h9) rfl (by decide +kernel) rfl rfl (Nat.le_of_ble_eq_true rfl) dX1_cut_2 (fun H locs hP hD hS => ?_)
  have hP : va_P (dC, dI) vwCl [(g0, .inr (1, [.int 0, .ref g1, .ref g2, .int u.2.2])), (g1, .inl (cC, 4096, .inl (fun jx => mb_sg (u.1 jx)))), (g2, .inl (cD, 512, .inl (fun jx => mb_sg (u.2.1 jx))))] H := hP
  have hD : va_D A [(g0, .inr (1, [.int 0, .ref g1, .ref g2, .int u.2.2])), (g1, .inl (cC, 4096, .inl (fun jx => mb_sg (u.1 jx)))), (g2, .inl (cD, 512, .inl (fun jx => mb_sg (u.2.1 jx))))] := hD
  refine lv_iload_n hx hb dX1_cut_5 rfl (lv_at hl 1 rfl) ?_
  refine lv_if_lt (tgt := 17) hx hb dX1_cut_6 (by decide) (fun c1 => ?_) (fun c1 => ?_)
  · have c2 : mb_part 0 n u.2.2 = 0 := by unfold mb_part; rw [if_neg (by decide), if_pos c1]
    refine lv_iconst (v := 0) hx hb dX1_cut_17 (by decide) ?_
    have hP9 := hP.sub (ws' := [(g0, .inr (1, [.int 0, .ref g1, .ref g2, .int u.2.2])), (g1, .inl (cC, 4096, .inl (fun jx => mb_sg (u.1 jx)))), (g2, .inl (cD, 512, .inl (fun jx => mb_sg (u.2.1 jx))))]) [0, 1, 2] rfl
    have hD9 := hD.sub (ws' := [(g0, .inr (1, [.int 0, .ref g1, .ref g2, .int u.2.2])), (g1, .inl (cC, 4096, .inl (fun jx => mb_sg (u.1 jx)))), (g2, .inl (cD, 512, .inl (fun jx => mb_sg (u.2.1 jx))))]) [0, 1, 2] (by decide) rfl
    exact W.zret (v := 0) hx hb hr (by decide) (fun t ht hW => ⟨⟨0, u, rfl, by unfold mb_cut; rw [if_pos c2], by rw [ht]; exact hP9, va_K.moved hW.alike hK, hD9⟩, hS.F ht⟩) hS.2.2 dX1_cut_18
  · refine lv_iload_n hx hb dX1_cut_9 rfl (lv_at hl 1 rfl) ?_
    refine lv_aload_n hx hb dX1_cut_10 rfl (lv_at hl 0 rfl) ?_
    refine va_get (D := (dC, dI)) (ci := 1) (v := .int u.2.2) (C := RX1) (T := TX1) (N := 4) hx hb hts (by decide +kernel) hown hK hP 0 rfl rfl 3 (by decide) (hts (.fieldLink RX1 21 "MemoryBankModel" "size" "I") (by decide +kernel)) (fun _ h9 => h9) rfl dX1_cut_11 ?_
    refine lv_icmp_le (tgt := 19) hx hb dX1_cut_14 (by decide) (fun c2 => ?_) (fun c2 => ?_)
    · have c3 : ¬ mb_part 0 n u.2.2 = 0 := (mb_part_iff hu0).mpr (by rw [mb_0]; rw [mb_lt, mb_0] at c1; rw [mb_le] at c2; omega)
      refine lv_aload_n hx hb dX1_cut_19 rfl (lv_at hl 0 rfl) ?_
      refine lv_iload_n hx hb dX1_cut_20 rfl (lv_at hl 1 rfl) ?_
      refine va_put (D := (dC, dI)) (ci := 1) (v := .int n) (ty := .int) (C := RX1) (T := TX1) (N := 4) hx hb hts (by decide +kernel) tyX1 tyX1_ok nmX1 hown hK hP hD hS 0 rfl rfl 3 (by decide) (hts (.fieldLink RX1 21 "MemoryBankModel" "size" "I") (by decide +kernel)) (fun _ h9 => h9) rfl (by decide +kernel) rfl rfl (Nat.le_of_ble_eq_true rfl) dX1_cut_21 (fun H locs hP hD hS => ?_)
      have hP : va_P (dC, dI) vwCl [(g0, .inr (1, [.int 0, .ref g1, .ref g2, .int n])), (g1, .inl (cC, 4096, .inl (fun jx => mb_sg (u.1 jx)))), (g2, .inl (cD, 512, .inl (fun jx => mb_sg (u.2.1 jx))))] H := hP
      have hD : va_D A [(g0, .inr (1, [.int 0, .ref g1, .ref g2, .int n])), (g1, .inl (cC, 4096, .inl (fun jx => mb_sg (u.1 jx)))), (g2, .inl (cD, 512, .inl (fun jx => mb_sg (u.2.1 jx))))] := hD
      refine lv_iconst (v := 1) hx hb dX1_cut_24 (by decide) ?_
      have hP9 := hP.sub (ws' := [(g0, .inr (1, [.int 0, .ref g1, .ref g2, .int n])), (g1, .inl (cC, 4096, .inl (fun jx => mb_sg (u.1 jx)))), (g2, .inl (cD, 512, .inl (fun jx => mb_sg (u.2.1 jx))))]) [0, 1, 2] rfl
      have hD9 := hD.sub (ws' := [(g0, .inr (1, [.int 0, .ref g1, .ref g2, .int n])), (g1, .inl (cC, 4096, .inl (fun jx => mb_sg (u.1 jx)))), (g2, .inl (cD, 512, .inl (fun jx => mb_sg (u.2.1 jx))))]) [0, 1, 2] (by decide) rfl
      exact W.zret (v := 1) hx hb hr (by decide) (fun t ht hW => ⟨⟨1, (u.1, u.2.1, n), rfl, by unfold mb_cut; rw [if_neg c3], by rw [ht]; exact hP9, va_K.moved hW.alike hK, hD9⟩, hS.F ht⟩) hS.2.2 dX1_cut_25
    · have c3 : mb_part 0 n u.2.2 = 0 := Classical.byContradiction fun q => by have q2 := (mb_part_iff hu0).mp q; rw [mb_0] at q2; rw [mb_le] at c2; omega
      refine lv_iconst (v := 0) hx hb dX1_cut_17 (by decide) ?_
      have hP9 := hP.sub (ws' := [(g0, .inr (1, [.int 0, .ref g1, .ref g2, .int u.2.2])), (g1, .inl (cC, 4096, .inl (fun jx => mb_sg (u.1 jx)))), (g2, .inl (cD, 512, .inl (fun jx => mb_sg (u.2.1 jx))))]) [0, 1, 2] rfl
      have hD9 := hD.sub (ws' := [(g0, .inr (1, [.int 0, .ref g1, .ref g2, .int u.2.2])), (g1, .inl (cC, 4096, .inl (fun jx => mb_sg (u.1 jx)))), (g2, .inl (cD, 512, .inl (fun jx => mb_sg (u.2.1 jx))))]) [0, 1, 2] (by decide) rfl
      exact W.zret (v := 0) hx hb hr (by decide) (fun t ht hW => ⟨⟨0, u, rfl, by unfold mb_cut; rw [if_pos c3], by rw [ht]; exact hP9, va_K.moved hW.alike hK, hD9⟩, hS.F ht⟩) hS.2.2 dX1_cut_18
set_option maxHeartbeats 1000000 in
set_option maxRecDepth 100000 in
/-- the reference: size -/
theorem c_msize (l : Launch) (dC : Nat → ClassId) (dI : Nat → Nat → Nat) (sz : Nat) (g0 g1 g2 : Nat) (cC cD : ClassId) (u : Bk_) (hu : mb_inv u) : Met l yX1_size wsX1_size ({ frames := 0, cells := 0, slots := 0, locals := 0 }) (va_Pc [.ref g0] (fun U => U.heap.size = sz ∧ va_P (dC, dI) vwCl [(g0, .inr (1, [.int 0, .ref g1, .ref g2, .int u.2.2])), (g1, .inl (cC, 4096, .inl (fun jx => mb_sg (u.1 jx)))), (g2, .inl (cD, 512, .inl (fun jx => mb_sg (u.2.1 jx))))] U.heap ∧ va_K (dC, dI) vwCl [(cC, .byte), (cD, .byte)] U ∧ va_D (fun _ => True) [(g0, .inr (1, [.int 0, .ref g1, .ref g2, .int u.2.2])), (g1, .inl (cC, 4096, .inl (fun jx => mb_sg (u.1 jx)))), (g2, .inl (cD, 512, .inl (fun jx => mb_sg (u.2.1 jx))))])) (va_Qi (fun (r : Int32) (u2 : Bk_) => mb_size u = (r, u2)) (at_W dC dI (va_A [(g0, .inr (1, [.int 0, .ref g1, .ref g2, .int u.2.2])), (g1, .inl (cC, 4096, .inl (fun jx => mb_sg (u.1 jx)))), (g2, .inl (cD, 512, .inl (fun jx => mb_sg (u.2.1 jx))))] sz) [(cC, .byte), (cD, .byte)] (bw_X1 g0 g1 g2 cC cD)) (va_A [(g0, .inr (1, [.int 0, .ref g1, .ref g2, .int u.2.2])), (g1, .inl (cC, 4096, .inl (fun jx => mb_sg (u.1 jx)))), (g2, .inl (cD, 512, .inl (fun jx => mb_sg (u.2.1 jx))))] sz)) 0 0 (va_A [(g0, .inr (1, [.int 0, .ref g1, .ref g2, .int u.2.2])), (g1, .inl (cC, 4096, .inl (fun jx => mb_sg (u.1 jx)))), (g2, .inl (cD, 512, .inl (fun jx => mb_sg (u.2.1 jx))))] sz) := by
  refine Met.ofW (cc := cX1_size) (maxL := 1) (ret := (some .int)) (by decide) rfl ?_
  intro p e s m args below meth c s₁ B hml hv
  obtain ⟨rfl, hsz, hP, hK, hD0⟩ := hv
  have hx := B.exec
  have hb := B.bytes
  have hr := B.returns
  have hts := atoms_spec (ws := wsX1_size) B.pre
  have hown : s.vm.findClass RX1 = some m.cls := findClass_of_methodNamed B.named
  have hlocks := B.notSynchronized
  subst hsz
  have hD := hD0.self (sz := s.heap.size)
  generalize hAe : va_A [(g0, .inr (1, [.int 0, .ref g1, .ref g2, .int u.2.2])), (g1, .inl (cC, 4096, .inl (fun jx => mb_sg (u.1 jx)))), (g2, .inl (cD, 512, .inl (fun jx => mb_sg (u.2.1 jx))))] s.heap.size = A at hD ⊢
  have hA : ∀ q : Nat, s.heap.size ≤ q → A q := fun q h => by rw [← hAe]; exact Or.inr h
  have hS : va_S A s.heap s.heap [] := va_S.rf
  have hP : va_P (dC, dI) vwCl [(g0, .inr (1, [.int 0, .ref g1, .ref g2, .int u.2.2])), (g1, .inl (cC, 4096, .inl (fun jx => mb_sg (u.1 jx)))), (g2, .inl (cD, 512, .inl (fun jx => mb_sg (u.2.1 jx))))] s.heap := hP
  have hl := lv_entry ([.ref g0]) (n := 1) (Nat.le_of_ble_eq_true rfl)
  rw [lg_entry_eq]
  generalize (lg_sl ([.ref g0]) ++ List.replicate (1 - (lg_sl ([.ref g0])).length) Slot.unset).toArray = ls at hl ⊢
  have hl : lv_has ls 1 [(0, .ref g0)] := hl
  refine lv_aload_n hx hb dX1_size_0 rfl (lv_at hl 0 rfl) ?_
  refine lv_iconst (v := 0) hx hb dX1_size_1 (by decide) ?_
  refine va_put (D := (dC, dI)) (ci := 1) (v := .int 0) (ty := .int) (C := RX1) (T := TX1) (N := 4) hx hb hts (by decide +kernel) tyX1 tyX1_ok nmX1 hown hK hP hD hS 0 rfl rfl 0 (by decide) (hts (.fieldLink RX1 16 "MemoryBankModel" "thrown" "I") (by decide +kernel)) (fun _ h9 => h9) rfl (by decide +kernel) rfl rfl (Nat.le_of_ble_eq_true rfl) dX1_size_2 (fun H locs hP hD hS => ?_)
  have hP : va_P (dC, dI) vwCl [(g0, .inr (1, [.int 0, .ref g1, .ref g2, .int u.2.2])), (g1, .inl (cC, 4096, .inl (fun jx => mb_sg (u.1 jx)))), (g2, .inl (cD, 512, .inl (fun jx => mb_sg (u.2.1 jx))))] H := hP
  have hD : va_D A [(g0, .inr (1, [.int 0, .ref g1, .ref g2, .int u.2.2])), (g1, .inl (cC, 4096, .inl (fun jx => mb_sg (u.1 jx)))), (g2, .inl (cD, 512, .inl (fun jx => mb_sg (u.2.1 jx))))] := hD
  refine lv_aload_n hx hb dX1_size_5 rfl (lv_at hl 0 rfl) ?_
  refine va_get (D := (dC, dI)) (ci := 1) (v := .int u.2.2) (C := RX1) (T := TX1) (N := 4) hx hb hts (by decide +kernel) hown hK hP 0 rfl rfl 3 (by decide) (hts (.fieldLink RX1 21 "MemoryBankModel" "size" "I") (by decide +kernel)) (fun _ h9 => h9) rfl dX1_size_6 ?_
  have hP9 := hP.sub (ws' := [(g0, .inr (1, [.int 0, .ref g1, .ref g2, .int u.2.2])), (g1, .inl (cC, 4096, .inl (fun jx => mb_sg (u.1 jx)))), (g2, .inl (cD, 512, .inl (fun jx => mb_sg (u.2.1 jx))))]) [0, 1, 2] rfl
  have hD9 := hD.sub (ws' := [(g0, .inr (1, [.int 0, .ref g1, .ref g2, .int u.2.2])), (g1, .inl (cC, 4096, .inl (fun jx => mb_sg (u.1 jx)))), (g2, .inl (cD, 512, .inl (fun jx => mb_sg (u.2.1 jx))))]) [0, 1, 2] (by decide) rfl
  exact W.iret (v := u.2.2) hx hb hr (fun t ht hW => ⟨⟨u.2.2, u, rfl, rfl, by rw [ht]; exact hP9, va_K.moved hW.alike hK, hD9⟩, hS.F ht⟩) hS.2.2 dX1_size_9
set_option maxHeartbeats 1000000 in
set_option maxRecDepth 100000 in
/-- the reference: rowAt -/
theorem c_mrowAt (l : Launch) (dC : Nat → ClassId) (dI : Nat → Nat → Nat) (sz : Nat) (g0 g1 g2 : Nat) (cC cD : ClassId) (u : Bk_) (k : Int32) (hu : mb_inv u) : Met l yX1_rowAt wsX1_rowAt ({ frames := 0, cells := 0, slots := 0, locals := 0 }) (va_Pc [.ref g0, .int k] (fun U => U.heap.size = sz ∧ va_P (dC, dI) vwCl [(g0, .inr (1, [.int 0, .ref g1, .ref g2, .int u.2.2])), (g1, .inl (cC, 4096, .inl (fun jx => mb_sg (u.1 jx)))), (g2, .inl (cD, 512, .inl (fun jx => mb_sg (u.2.1 jx))))] U.heap ∧ va_K (dC, dI) vwCl [(cC, .byte), (cD, .byte)] U ∧ va_D (fun _ => True) [(g0, .inr (1, [.int 0, .ref g1, .ref g2, .int u.2.2])), (g1, .inl (cC, 4096, .inl (fun jx => mb_sg (u.1 jx)))), (g2, .inl (cD, 512, .inl (fun jx => mb_sg (u.2.1 jx))))])) (va_Qi (fun (r : Int32) (u2 : Bk_) => mb_rowAt u k = (r, u2)) (at_W dC dI (va_A [(g0, .inr (1, [.int 0, .ref g1, .ref g2, .int u.2.2])), (g1, .inl (cC, 4096, .inl (fun jx => mb_sg (u.1 jx)))), (g2, .inl (cD, 512, .inl (fun jx => mb_sg (u.2.1 jx))))] sz) [(cC, .byte), (cD, .byte)] (bw_X1 g0 g1 g2 cC cD)) (va_A [(g0, .inr (1, [.int 0, .ref g1, .ref g2, .int u.2.2])), (g1, .inl (cC, 4096, .inl (fun jx => mb_sg (u.1 jx)))), (g2, .inl (cD, 512, .inl (fun jx => mb_sg (u.2.1 jx))))] sz)) 0 0 (va_A [(g0, .inr (1, [.int 0, .ref g1, .ref g2, .int u.2.2])), (g1, .inl (cC, 4096, .inl (fun jx => mb_sg (u.1 jx)))), (g2, .inl (cD, 512, .inl (fun jx => mb_sg (u.2.1 jx))))] sz) := by
  refine Met.ofW (cc := cX1_rowAt) (maxL := 2) (ret := (some .int)) (by decide) rfl ?_
  intro p e s m args below meth c s₁ B hml hv
  obtain ⟨rfl, hsz, hP, hK, hD0⟩ := hv
  have hx := B.exec
  have hb := B.bytes
  have hr := B.returns
  have hts := atoms_spec (ws := wsX1_rowAt) B.pre
  have hown : s.vm.findClass RX1 = some m.cls := findClass_of_methodNamed B.named
  have hlocks := B.notSynchronized
  subst hsz
  have hD := hD0.self (sz := s.heap.size)
  generalize hAe : va_A [(g0, .inr (1, [.int 0, .ref g1, .ref g2, .int u.2.2])), (g1, .inl (cC, 4096, .inl (fun jx => mb_sg (u.1 jx)))), (g2, .inl (cD, 512, .inl (fun jx => mb_sg (u.2.1 jx))))] s.heap.size = A at hD ⊢
  have hA : ∀ q : Nat, s.heap.size ≤ q → A q := fun q h => by rw [← hAe]; exact Or.inr h
  have hS : va_S A s.heap s.heap [] := va_S.rf
  have hP : va_P (dC, dI) vwCl [(g0, .inr (1, [.int 0, .ref g1, .ref g2, .int u.2.2])), (g1, .inl (cC, 4096, .inl (fun jx => mb_sg (u.1 jx)))), (g2, .inl (cD, 512, .inl (fun jx => mb_sg (u.2.1 jx))))] s.heap := hP
  have hl := lv_entry ([.ref g0, .int k]) (n := 2) (Nat.le_of_ble_eq_true rfl)
  rw [lg_entry_eq]
  generalize (lg_sl ([.ref g0, .int k]) ++ List.replicate (2 - (lg_sl ([.ref g0, .int k])).length) Slot.unset).toArray = ls at hl ⊢
  have hl : lv_has ls 2 [(0, .ref g0), (1, .int k)] := hl
  have hu0 := hu.1.1
  have hu2 := hu.1.2
  refine lv_aload_n hx hb dX1_rowAt_0 rfl (lv_at hl 0 rfl) ?_
  refine lv_iconst (v := 0) hx hb dX1_rowAt_1 (by decide) ?_
  refine va_put (D := (dC, dI)) (ci := 1) (v := .int 0) (ty := .int) (C := RX1) (T := TX1) (N := 4) hx hb hts (by decide +kernel) tyX1 tyX1_ok nmX1 hown hK hP hD hS 0 rfl rfl 0 (by decide) (hts (.fieldLink RX1 16 "MemoryBankModel" "thrown" "I") (by decide +kernel)) (fun _ h9 => h9) rfl (by decide +kernel) rfl rfl (Nat.le_of_ble_eq_true rfl) dX1_rowAt_2 (fun H locs hP hD hS => ?_)
  have hP : va_P (dC, dI) vwCl [(g0, .inr (1, [.int 0, .ref g1, .ref g2, .int u.2.2])), (g1, .inl (cC, 4096, .inl (fun jx => mb_sg (u.1 jx)))), (g2, .inl (cD, 512, .inl (fun jx => mb_sg (u.2.1 jx))))] H := hP
  have hD : va_D A [(g0, .inr (1, [.int 0, .ref g1, .ref g2, .int u.2.2])), (g1, .inl (cC, 4096, .inl (fun jx => mb_sg (u.1 jx)))), (g2, .inl (cD, 512, .inl (fun jx => mb_sg (u.2.1 jx))))] := hD
  refine lv_iload_n hx hb dX1_rowAt_5 rfl (lv_at hl 1 rfl) ?_
  refine lv_if_lt (tgt := 17) hx hb dX1_rowAt_6 (by decide) (fun c1 => ?_) (fun c1 => ?_)
  · have c2 : mb_part k 1 u.2.2 = 0 := by unfold mb_part; rw [if_pos c1]
    refine lv_iconst (v := (-1)) hx hb dX1_rowAt_17 (by decide) ?_
    refine lv_goto (tgt := 31) hx hb dX1_rowAt_18 (by decide) ?_
    have hP9 := hP.sub (ws' := [(g0, .inr (1, [.int 0, .ref g1, .ref g2, .int u.2.2])), (g1, .inl (cC, 4096, .inl (fun jx => mb_sg (u.1 jx)))), (g2, .inl (cD, 512, .inl (fun jx => mb_sg (u.2.1 jx))))]) [0, 1, 2] rfl
    have hD9 := hD.sub (ws' := [(g0, .inr (1, [.int 0, .ref g1, .ref g2, .int u.2.2])), (g1, .inl (cC, 4096, .inl (fun jx => mb_sg (u.1 jx)))), (g2, .inl (cD, 512, .inl (fun jx => mb_sg (u.2.1 jx))))]) [0, 1, 2] (by decide) rfl
    exact W.iret (v := (-1)) hx hb hr (fun t ht hW => ⟨⟨(-1), u, rfl, by unfold mb_rowAt; rw [if_pos c2], by rw [ht]; exact hP9, va_K.moved hW.alike hK, hD9⟩, hS.F ht⟩) hS.2.2 dX1_rowAt_31
  · refine lv_iload_n hx hb dX1_rowAt_9 rfl (lv_at hl 1 rfl) ?_
    refine lv_aload_n hx hb dX1_rowAt_10 rfl (lv_at hl 0 rfl) ?_
    refine va_get (D := (dC, dI)) (ci := 1) (v := .int u.2.2) (C := RX1) (T := TX1) (N := 4) hx hb hts (by decide +kernel) hown hK hP 0 rfl rfl 3 (by decide) (hts (.fieldLink RX1 21 "MemoryBankModel" "size" "I") (by decide +kernel)) (fun _ h9 => h9) rfl dX1_rowAt_11 ?_
    refine lv_icmp_lt (tgt := 21) hx hb dX1_rowAt_14 (by decide) (fun c2 => ?_) (fun c2 => ?_)
    · rw [mb_lt, mb_0] at c1
      rw [mb_lt] at c2
      have c3 : ¬ mb_part k 1 u.2.2 = 0 := (mb_part_iff hu0).mpr (by rw [mb_1]; omega)
      refine lv_aload_n hx hb dX1_rowAt_21 rfl (lv_at hl 0 rfl) ?_
      refine va_get (D := (dC, dI)) (ci := 1) (v := .ref g2) (C := RX1) (T := TX1) (N := 4) hx hb hts (by decide +kernel) hown hK hP 0 rfl rfl 2 (by decide) (hts (.fieldLink RX1 13 "MemoryBankModel" "row" "[B") (by decide +kernel)) (fun _ h9 => h9) rfl dX1_rowAt_22 ?_
      refine lv_iload_n hx hb dX1_rowAt_25 rfl (lv_at hl 1 rfl) ?_
      refine va_bald hx hb hK hP 2 1 rfl rfl (mb_in (by omega) (by omega)) dX1_rowAt_26 ?_
      refine lv_sipush (v := 255) hx hb dX1_rowAt_27 (by decide) ?_
      refine lv_iand hx hb dX1_rowAt_30 ?_
      refine lv_topi (fun yv eyv => ?_)
      obtain rfl : yv = u.2.1 k.toNatClampNeg := eyv.trans (mb_sg255 (hu.2.2 _))
      have hP9 := hP.sub (ws' := [(g0, .inr (1, [.int 0, .ref g1, .ref g2, .int u.2.2])), (g1, .inl (cC, 4096, .inl (fun jx => mb_sg (u.1 jx)))), (g2, .inl (cD, 512, .inl (fun jx => mb_sg (u.2.1 jx))))]) [0, 1, 2] rfl
      have hD9 := hD.sub (ws' := [(g0, .inr (1, [.int 0, .ref g1, .ref g2, .int u.2.2])), (g1, .inl (cC, 4096, .inl (fun jx => mb_sg (u.1 jx)))), (g2, .inl (cD, 512, .inl (fun jx => mb_sg (u.2.1 jx))))]) [0, 1, 2] (by decide) rfl
      exact W.iret (v := (u.2.1 k.toNatClampNeg)) hx hb hr (fun t ht hW => ⟨⟨(u.2.1 k.toNatClampNeg), u, rfl, by unfold mb_rowAt; rw [if_neg c3], by rw [ht]; exact hP9, va_K.moved hW.alike hK, hD9⟩, hS.F ht⟩) hS.2.2 dX1_rowAt_31
    · have c3 : mb_part k 1 u.2.2 = 0 := Classical.byContradiction fun q => by have q2 := (mb_part_iff hu0).mp q; rw [mb_1] at q2; rw [mb_lt] at c2; omega
      refine lv_iconst (v := (-1)) hx hb dX1_rowAt_17 (by decide) ?_
      refine lv_goto (tgt := 31) hx hb dX1_rowAt_18 (by decide) ?_
      have hP9 := hP.sub (ws' := [(g0, .inr (1, [.int 0, .ref g1, .ref g2, .int u.2.2])), (g1, .inl (cC, 4096, .inl (fun jx => mb_sg (u.1 jx)))), (g2, .inl (cD, 512, .inl (fun jx => mb_sg (u.2.1 jx))))]) [0, 1, 2] rfl
      have hD9 := hD.sub (ws' := [(g0, .inr (1, [.int 0, .ref g1, .ref g2, .int u.2.2])), (g1, .inl (cC, 4096, .inl (fun jx => mb_sg (u.1 jx)))), (g2, .inl (cD, 512, .inl (fun jx => mb_sg (u.2.1 jx))))]) [0, 1, 2] (by decide) rfl
      exact W.iret (v := (-1)) hx hb hr (fun t ht hW => ⟨⟨(-1), u, rfl, by unfold mb_rowAt; rw [if_pos c3], by rw [ht]; exact hP9, va_K.moved hW.alike hK, hD9⟩, hS.F ht⟩) hS.2.2 dX1_rowAt_31
set_option maxHeartbeats 1000000 in
set_option maxRecDepth 100000 in
/-- the reference: at -/
theorem c_mat (l : Launch) (dC : Nat → ClassId) (dI : Nat → Nat → Nat) (sz : Nat) (g0 g1 g2 : Nat) (cC cD : ClassId) (u : Bk_) (k : Int32) (hu : mb_inv u) : Met l yX1_at wsX1_at ({ frames := 0, cells := 0, slots := 0, locals := 0 }) (va_Pc [.ref g0, .int k] (fun U => U.heap.size = sz ∧ va_P (dC, dI) vwCl [(g0, .inr (1, [.int 0, .ref g1, .ref g2, .int u.2.2])), (g1, .inl (cC, 4096, .inl (fun jx => mb_sg (u.1 jx)))), (g2, .inl (cD, 512, .inl (fun jx => mb_sg (u.2.1 jx))))] U.heap ∧ va_K (dC, dI) vwCl [(cC, .byte), (cD, .byte)] U ∧ va_D (fun _ => True) [(g0, .inr (1, [.int 0, .ref g1, .ref g2, .int u.2.2])), (g1, .inl (cC, 4096, .inl (fun jx => mb_sg (u.1 jx)))), (g2, .inl (cD, 512, .inl (fun jx => mb_sg (u.2.1 jx))))])) (va_Qi (fun (r : Int32) (u2 : Bk_) => mb_at u k = (r, u2)) (at_W dC dI (va_A [(g0, .inr (1, [.int 0, .ref g1, .ref g2, .int u.2.2])), (g1, .inl (cC, 4096, .inl (fun jx => mb_sg (u.1 jx)))), (g2, .inl (cD, 512, .inl (fun jx => mb_sg (u.2.1 jx))))] sz) [(cC, .byte), (cD, .byte)] (bw_X1 g0 g1 g2 cC cD)) (va_A [(g0, .inr (1, [.int 0, .ref g1, .ref g2, .int u.2.2])), (g1, .inl (cC, 4096, .inl (fun jx => mb_sg (u.1 jx)))), (g2, .inl (cD, 512, .inl (fun jx => mb_sg (u.2.1 jx))))] sz)) 0 0 (va_A [(g0, .inr (1, [.int 0, .ref g1, .ref g2, .int u.2.2])), (g1, .inl (cC, 4096, .inl (fun jx => mb_sg (u.1 jx)))), (g2, .inl (cD, 512, .inl (fun jx => mb_sg (u.2.1 jx))))] sz) := by
  refine Met.ofW (cc := cX1_at) (maxL := 2) (ret := (some .int)) (by decide) rfl ?_
  intro p e s m args below meth c s₁ B hml hv
  obtain ⟨rfl, hsz, hP, hK, hD0⟩ := hv
  have hx := B.exec
  have hb := B.bytes
  have hr := B.returns
  have hts := atoms_spec (ws := wsX1_at) B.pre
  have hown : s.vm.findClass RX1 = some m.cls := findClass_of_methodNamed B.named
  have hlocks := B.notSynchronized
  subst hsz
  have hD := hD0.self (sz := s.heap.size)
  generalize hAe : va_A [(g0, .inr (1, [.int 0, .ref g1, .ref g2, .int u.2.2])), (g1, .inl (cC, 4096, .inl (fun jx => mb_sg (u.1 jx)))), (g2, .inl (cD, 512, .inl (fun jx => mb_sg (u.2.1 jx))))] s.heap.size = A at hD ⊢
  have hA : ∀ q : Nat, s.heap.size ≤ q → A q := fun q h => by rw [← hAe]; exact Or.inr h
  have hS : va_S A s.heap s.heap [] := va_S.rf
  have hP : va_P (dC, dI) vwCl [(g0, .inr (1, [.int 0, .ref g1, .ref g2, .int u.2.2])), (g1, .inl (cC, 4096, .inl (fun jx => mb_sg (u.1 jx)))), (g2, .inl (cD, 512, .inl (fun jx => mb_sg (u.2.1 jx))))] s.heap := hP
  have hl := lv_entry ([.ref g0, .int k]) (n := 2) (Nat.le_of_ble_eq_true rfl)
  rw [lg_entry_eq]
  generalize (lg_sl ([.ref g0, .int k]) ++ List.replicate (2 - (lg_sl ([.ref g0, .int k])).length) Slot.unset).toArray = ls at hl ⊢
  have hl : lv_has ls 2 [(0, .ref g0), (1, .int k)] := hl
  have hu0 := hu.1.1
  have hu2 := hu.1.2
  refine lv_aload_n hx hb dX1_at_0 rfl (lv_at hl 0 rfl) ?_
  refine lv_iconst (v := 0) hx hb dX1_at_1 (by decide) ?_
  refine va_put (D := (dC, dI)) (ci := 1) (v := .int 0) (ty := .int) (C := RX1) (T := TX1) (N := 4) hx hb hts (by decide +kernel) tyX1 tyX1_ok nmX1 hown hK hP hD hS 0 rfl rfl 0 (by decide) (hts (.fieldLink RX1 16 "MemoryBankModel" "thrown" "I") (by decide +kernel)) (fun _ h9 => h9) rfl (by decide +kernel) rfl rfl (Nat.le_of_ble_eq_true rfl) dX1_at_2 (fun H locs hP hD hS => ?_)
  have hP : va_P (dC, dI) vwCl [(g0, .inr (1, [.int 0, .ref g1, .ref g2, .int u.2.2])), (g1, .inl (cC, 4096, .inl (fun jx => mb_sg (u.1 jx)))), (g2, .inl (cD, 512, .inl (fun jx => mb_sg (u.2.1 jx))))] H := hP
  have hD : va_D A [(g0, .inr (1, [.int 0, .ref g1, .ref g2, .int u.2.2])), (g1, .inl (cC, 4096, .inl (fun jx => mb_sg (u.1 jx)))), (g2, .inl (cD, 512, .inl (fun jx => mb_sg (u.2.1 jx))))] := hD
  refine lv_iload_n hx hb dX1_at_5 rfl (lv_at hl 1 rfl) ?_
  refine lv_if_lt (tgt := 16) hx hb dX1_at_6 (by decide) (fun c1 => ?_) (fun c1 => ?_)
  · have c2 : mb_part k 1 4096 = 0 := by unfold mb_part; rw [if_pos c1]
    refine lv_iconst (v := (-1)) hx hb dX1_at_16 (by decide) ?_
    refine lv_goto (tgt := 30) hx hb dX1_at_17 (by decide) ?_
    have hP9 := hP.sub (ws' := [(g0, .inr (1, [.int 0, .ref g1, .ref g2, .int u.2.2])), (g1, .inl (cC, 4096, .inl (fun jx => mb_sg (u.1 jx)))), (g2, .inl (cD, 512, .inl (fun jx => mb_sg (u.2.1 jx))))]) [0, 1, 2] rfl
    have hD9 := hD.sub (ws' := [(g0, .inr (1, [.int 0, .ref g1, .ref g2, .int u.2.2])), (g1, .inl (cC, 4096, .inl (fun jx => mb_sg (u.1 jx)))), (g2, .inl (cD, 512, .inl (fun jx => mb_sg (u.2.1 jx))))]) [0, 1, 2] (by decide) rfl
    exact W.iret (v := (-1)) hx hb hr (fun t ht hW => ⟨⟨(-1), u, rfl, by unfold mb_at; rw [if_pos c2], by rw [ht]; exact hP9, va_K.moved hW.alike hK, hD9⟩, hS.F ht⟩) hS.2.2 dX1_at_30
  · refine lv_iload_n hx hb dX1_at_9 rfl (lv_at hl 1 rfl) ?_
    refine lv_sipush (v := 4096) hx hb dX1_at_10 (by decide) ?_
    refine lv_icmp_lt (tgt := 20) hx hb dX1_at_13 (by decide) (fun c2 => ?_) (fun c2 => ?_)
    · rw [mb_lt, mb_0] at c1
      rw [mb_lt, mb_4096] at c2
      have c3 : ¬ mb_part k 1 4096 = 0 := (mb_part_iff (by decide)).mpr (by rw [mb_1, mb_4096]; omega)
      refine lv_aload_n hx hb dX1_at_20 rfl (lv_at hl 0 rfl) ?_
      refine va_get (D := (dC, dI)) (ci := 1) (v := .ref g1) (C := RX1) (T := TX1) (N := 4) hx hb hts (by decide +kernel) hown hK hP 0 rfl rfl 1 (by decide) (hts (.fieldLink RX1 7 "MemoryBankModel" "memory" "[B") (by decide +kernel)) (fun _ h9 => h9) rfl dX1_at_21 ?_
      refine lv_iload_n hx hb dX1_at_24 rfl (lv_at hl 1 rfl) ?_
      refine va_bald hx hb hK hP 1 0 rfl rfl (mb_in (by omega) (by omega)) dX1_at_25 ?_
      refine lv_sipush (v := 255) hx hb dX1_at_26 (by decide) ?_
      refine lv_iand hx hb dX1_at_29 ?_
      refine lv_topi (fun yv eyv => ?_)
      obtain rfl : yv = u.1 k.toNatClampNeg := eyv.trans (mb_sg255 (hu.2.1 _))
      have hP9 := hP.sub (ws' := [(g0, .inr (1, [.int 0, .ref g1, .ref g2, .int u.2.2])), (g1, .inl (cC, 4096, .inl (fun jx => mb_sg (u.1 jx)))), (g2, .inl (cD, 512, .inl (fun jx => mb_sg (u.2.1 jx))))]) [0, 1, 2] rfl
      have hD9 := hD.sub (ws' := [(g0, .inr (1, [.int 0, .ref g1, .ref g2, .int u.2.2])), (g1, .inl (cC, 4096, .inl (fun jx => mb_sg (u.1 jx)))), (g2, .inl (cD, 512, .inl (fun jx => mb_sg (u.2.1 jx))))]) [0, 1, 2] (by decide) rfl
      exact W.iret (v := (u.1 k.toNatClampNeg)) hx hb hr (fun t ht hW => ⟨⟨(u.1 k.toNatClampNeg), u, rfl, by unfold mb_at; rw [if_neg c3], by rw [ht]; exact hP9, va_K.moved hW.alike hK, hD9⟩, hS.F ht⟩) hS.2.2 dX1_at_30
    · have c3 : mb_part k 1 4096 = 0 := Classical.byContradiction fun q => by have q2 := (mb_part_iff (by decide)).mp q; rw [mb_1, mb_4096] at q2; rw [mb_lt, mb_4096] at c2; omega
      refine lv_iconst (v := (-1)) hx hb dX1_at_16 (by decide) ?_
      refine lv_goto (tgt := 30) hx hb dX1_at_17 (by decide) ?_
      have hP9 := hP.sub (ws' := [(g0, .inr (1, [.int 0, .ref g1, .ref g2, .int u.2.2])), (g1, .inl (cC, 4096, .inl (fun jx => mb_sg (u.1 jx)))), (g2, .inl (cD, 512, .inl (fun jx => mb_sg (u.2.1 jx))))]) [0, 1, 2] rfl
      have hD9 := hD.sub (ws' := [(g0, .inr (1, [.int 0, .ref g1, .ref g2, .int u.2.2])), (g1, .inl (cC, 4096, .inl (fun jx => mb_sg (u.1 jx)))), (g2, .inl (cD, 512, .inl (fun jx => mb_sg (u.2.1 jx))))]) [0, 1, 2] (by decide) rfl
      exact W.iret (v := (-1)) hx hb hr (fun t ht hW => ⟨⟨(-1), u, rfl, by unfold mb_at; rw [if_pos c3], by rw [ht]; exact hP9, va_K.moved hW.alike hK, hD9⟩, hS.F ht⟩) hS.2.2 dX1_at_30
set_option maxHeartbeats 1000000 in
set_option maxRecDepth 100000 in
/-- the reference: check -/
theorem c_mcheck (l : Launch) (dC : Nat → ClassId) (dI : Nat → Nat → Nat) (sz : Nat) (g0 g1 g2 : Nat) (cC cD : ClassId) (u : Bk_) (a n : Int32) (hu : mb_inv u) : Met l yX1_check wsX1_check ({ frames := 1, cells := 0, slots := 0, locals := 26 }) (va_Pc [.ref g0, .int a, .int n] (fun U => U.heap.size = sz ∧ va_P (dC, dI) vwCl [(g0, .inr (1, [.int 0, .ref g1, .ref g2, .int u.2.2])), (g1, .inl (cC, 4096, .inl (fun jx => mb_sg (u.1 jx)))), (g2, .inl (cD, 512, .inl (fun jx => mb_sg (u.2.1 jx))))] U.heap ∧ va_K (dC, dI) vwCl [(cC, .byte), (cD, .byte)] U ∧ va_D (fun _ => True) [(g0, .inr (1, [.int 0, .ref g1, .ref g2, .int u.2.2])), (g1, .inl (cC, 4096, .inl (fun jx => mb_sg (u.1 jx)))), (g2, .inl (cD, 512, .inl (fun jx => mb_sg (u.2.1 jx))))])) (va_Qi (fun (r : Int32) (u2 : Bk_) => mb_check u a n = (r, u2)) (at_W dC dI (va_A [(g0, .inr (1, [.int 0, .ref g1, .ref g2, .int u.2.2])), (g1, .inl (cC, 4096, .inl (fun jx => mb_sg (u.1 jx)))), (g2, .inl (cD, 512, .inl (fun jx => mb_sg (u.2.1 jx))))] sz) [(cC, .byte), (cD, .byte)] (bw_X1 g0 g1 g2 cC cD)) (va_A [(g0, .inr (1, [.int 0, .ref g1, .ref g2, .int u.2.2])), (g1, .inl (cC, 4096, .inl (fun jx => mb_sg (u.1 jx)))), (g2, .inl (cD, 512, .inl (fun jx => mb_sg (u.2.1 jx))))] sz)) 0 0 (va_A [(g0, .inr (1, [.int 0, .ref g1, .ref g2, .int u.2.2])), (g1, .inl (cC, 4096, .inl (fun jx => mb_sg (u.1 jx)))), (g2, .inl (cD, 512, .inl (fun jx => mb_sg (u.2.1 jx))))] sz) := by
  refine Met.ofW (cc := cX1_check) (maxL := 3) (ret := (some .int)) (by decide) rfl ?_
  intro p e s m args below meth c s₁ B hml hv
  obtain ⟨rfl, hsz, hP, hK, hD0⟩ := hv
  have hx := B.exec
  have hb := B.bytes
  have hr := B.returns
  have hts := atoms_spec (ws := wsX1_check) B.pre
  have hown : s.vm.findClass RX1 = some m.cls := findClass_of_methodNamed B.named
  have hlocks := B.notSynchronized
  subst hsz
  have hD := hD0.self (sz := s.heap.size)
  generalize hAe : va_A [(g0, .inr (1, [.int 0, .ref g1, .ref g2, .int u.2.2])), (g1, .inl (cC, 4096, .inl (fun jx => mb_sg (u.1 jx)))), (g2, .inl (cD, 512, .inl (fun jx => mb_sg (u.2.1 jx))))] s.heap.size = A at hD ⊢
  have hA : ∀ q : Nat, s.heap.size ≤ q → A q := fun q h => by rw [← hAe]; exact Or.inr h
  have hS : va_S A s.heap s.heap [] := va_S.rf
  have hP : va_P (dC, dI) vwCl [(g0, .inr (1, [.int 0, .ref g1, .ref g2, .int u.2.2])), (g1, .inl (cC, 4096, .inl (fun jx => mb_sg (u.1 jx)))), (g2, .inl (cD, 512, .inl (fun jx => mb_sg (u.2.1 jx))))] s.heap := hP
  have hl := lv_entry ([.ref g0, .int a, .int n]) (n := 3) (Nat.le_of_ble_eq_true rfl)
  rw [lg_entry_eq]
  generalize (lg_sl ([.ref g0, .int a, .int n]) ++ List.replicate (3 - (lg_sl ([.ref g0, .int a, .int n])).length) Slot.unset).toArray = ls at hl ⊢
  have hl : lv_has ls 3 [(0, .ref g0), (1, .int a), (2, .int n)] := hl
  refine lv_aload_n hx hb dX1_check_0 rfl (lv_at hl 0 rfl) ?_
  refine lv_iconst (v := 0) hx hb dX1_check_1 (by decide) ?_
  refine va_put (D := (dC, dI)) (ci := 1) (v := .int 0) (ty := .int) (C := RX1) (T := TX1) (N := 4) hx hb hts (by decide +kernel) tyX1 tyX1_ok nmX1 hown hK hP hD hS 0 rfl rfl 0 (by decide) (hts (.fieldLink RX1 16 "MemoryBankModel" "thrown" "I") (by decide +kernel)) (fun _ h9 => h9) rfl (by decide +kernel) rfl rfl (Nat.le_of_ble_eq_true rfl) dX1_check_2 (fun H locs hP hD hS => ?_)
  have hP : va_P (dC, dI) vwCl [(g0, .inr (1, [.int 0, .ref g1, .ref g2, .int u.2.2])), (g1, .inl (cC, 4096, .inl (fun jx => mb_sg (u.1 jx)))), (g2, .inl (cD, 512, .inl (fun jx => mb_sg (u.2.1 jx))))] H := hP
  have hD : va_D A [(g0, .inr (1, [.int 0, .ref g1, .ref g2, .int u.2.2])), (g1, .inl (cC, 4096, .inl (fun jx => mb_sg (u.1 jx)))), (g2, .inl (cD, 512, .inl (fun jx => mb_sg (u.2.1 jx))))] := hD
  refine lv_iload_n hx hb dX1_check_5 rfl (lv_at hl 1 rfl) ?_
  refine lv_iload_n hx hb dX1_check_6 rfl (lv_at hl 2 rfl) ?_
  refine lv_sipush (v := 4096) hx hb dX1_check_7 (by decide) ?_
  have hPc := hP.sub (ws' := []) [] rfl
  have hDc := hD.sub (ws' := []) [] (by decide) rfl
  have hKc := hK.sub (tys' := []) [] rfl
  have hFc := va_free (wc := []) hD hS hA [] rfl
  refine va_calli (va_runS (As := [.int a, .int n, .int 4096]) (rest := []) ⟨hx, hb, hml, hown, hts⟩ (c_in l dC dI H.size a n 4096 (by decide)) (va_cwS 3 hts gX1_check_X1_in rfl rfl rfl (by decide +kernel) ⟨Nat.le_of_ble_eq_true rfl, Nat.le_of_ble_eq_true rfl⟩) ⟨fun a U g mk q => by obtain ⟨q0, q1, qP, qK, qD⟩ := q; exact ⟨q0, q1, qP, va_K.moved (u := U) (U := U.calling g mk a) (Vm.Alike.refl U.vm) qK, qD⟩, fun U hU hW => ⟨rfl, by rw [hU], by rw [hU]; exact hPc, va_K.moved hW.alike hKc, hDc.weaken (fun _ _ _ _ => trivial)⟩⟩ rfl rfl hl.1 rfl (lv_room (Nat.le_of_ble_eq_true rfl)) dX1_check_10 ⟨Nat.le_of_ble_eq_true rfl, Nat.le_of_ble_eq_true rfl⟩) hS (fun q _ h => hFc q h) hFc (fun r1 u1 t H1 locs ht hvm hw_u1 hB hz1 hk1 hS => ?_)
  obtain ⟨hP1, hK1, hD1⟩ := hB
  rw [ht] at hP1
  obtain ⟨hP, hD⟩ := va_join (wr := [(g0, .inr (1, [.int 0, .ref g1, .ref g2, .int u.2.2])), (g1, .inl (cC, 4096, .inl (fun jx => mb_sg (u.1 jx)))), (g2, .inl (cD, 512, .inl (fun jx => mb_sg (u.2.1 jx))))]) (w1 := []) hP hD [] [0, 1, 2] rfl rfl (by decide) (by decide) hk1 hFc hP1 hD1
  clear hPc hDc hFc hk1 hP1 hD1 ht
  generalize H1 = H at hP hS ⊢
  have hP : va_P (dC, dI) vwCl [(g0, .inr (1, [.int 0, .ref g1, .ref g2, .int u.2.2])), (g1, .inl (cC, 4096, .inl (fun jx => mb_sg (u.1 jx)))), (g2, .inl (cD, 512, .inl (fun jx => mb_sg (u.2.1 jx))))] H := hP
  have hD : va_D A [(g0, .inr (1, [.int 0, .ref g1, .ref g2, .int u.2.2])), (g1, .inl (cC, 4096, .inl (fun jx => mb_sg (u.1 jx)))), (g2, .inl (cD, 512, .inl (fun jx => mb_sg (u.2.1 jx))))] := hD
  subst hw_u1
  refine lv_if_eq (tgt := 28) hx hb dX1_check_13 (by decide) (fun c1 => ?_) (fun c1 => ?_)
  · refine lv_iconst (v := (-1)) hx hb dX1_check_28 (by decide) ?_
    have hP9 := hP.sub (ws' := [(g0, .inr (1, [.int 0, .ref g1, .ref g2, .int u.2.2])), (g1, .inl (cC, 4096, .inl (fun jx => mb_sg (u.1 jx)))), (g2, .inl (cD, 512, .inl (fun jx => mb_sg (u.2.1 jx))))]) [0, 1, 2] rfl
    have hD9 := hD.sub (ws' := [(g0, .inr (1, [.int 0, .ref g1, .ref g2, .int u.2.2])), (g1, .inl (cC, 4096, .inl (fun jx => mb_sg (u.1 jx)))), (g2, .inl (cD, 512, .inl (fun jx => mb_sg (u.2.1 jx))))]) [0, 1, 2] (by decide) rfl
    exact W.iret (v := (-1)) hx hb hr (fun t ht hW => ⟨⟨(-1), u, rfl, by unfold mb_check; rw [if_pos c1], by rw [ht]; exact hP9, va_K.moved hW.alike hK, hD9⟩, hS.F ht⟩) hS.2.2 dX1_check_29
  · have hq := (mb_part_iff (by decide)).mp c1
    rw [mb_4096] at hq
    have ea := mb_nI hq.1
    have en := mb_nI hq.2.1
    have hq3 : a.toNatClampNeg + n.toNatClampNeg ≤ 4096 := by rw [mb_cl, mb_cl]; omega
    refine lv_aload_n hx hb dX1_check_16 rfl (lv_at hl 0 rfl) ?_
    refine va_get (D := (dC, dI)) (ci := 1) (v := .ref g1) (C := RX1) (T := TX1) (N := 4) hx hb hts (by decide +kernel) hown hK hP 0 rfl rfl 1 (by decide) (hts (.fieldLink RX1 7 "MemoryBankModel" "memory" "[B") (by decide +kernel)) (fun _ h9 => h9) rfl dX1_check_17 ?_
    refine lv_iload_n hx hb dX1_check_20 rfl (lv_at hl 1 rfl) ?_
    refine lv_topi (fun yv eyv => ?_)
    obtain rfl : yv = nI a.toNatClampNeg := eyv.trans ea
    refine lv_iload_n hx hb dX1_check_21 rfl (lv_at hl 2 rfl) ?_
    refine lv_topi (fun yv eyv => ?_)
    obtain rfl : yv = nI n.toNatClampNeg := eyv.trans en
    have hPc := hP.sub (ws' := [(g1, .inl (cC, 4096, .inl (fun jx => mb_sg (u.1 jx))))]) [1] rfl
    have hDc := hD.sub (ws' := [(g1, .inl (cC, 4096, .inl (fun jx => mb_sg (u.1 jx))))]) [1] (by decide) rfl
    have hKc := hK.sub (tys' := [(cC, .byte)]) [0] rfl
    have hFc := va_free (wc := [(g1, .inl (cC, 4096, .inl (fun jx => mb_sg (u.1 jx))))]) hD hS hA [1] rfl
    refine va_calli (va_runS (As := [.ref g1, .int (nI a.toNatClampNeg), .int (nI n.toNatClampNeg)]) (rest := []) ⟨hx, hb, hml, hown, hts⟩ (c_mcheckOf l dC dI H.size g1 cC 4096 u.1 a.toNatClampNeg n.toNatClampNeg hu.2.1 hq3 (by decide)) (va_cwS 3 hts gX1_check_X1_checkOf rfl rfl rfl (by decide +kernel) ⟨Nat.le_of_ble_eq_true rfl, Nat.le_of_ble_eq_true rfl⟩) ⟨fun a U g mk q => by obtain ⟨q0, q1, qP, qK, qD⟩ := q; exact ⟨q0, q1, qP, va_K.moved (u := U) (U := U.calling g mk a) (Vm.Alike.refl U.vm) qK, qD⟩, fun U hU hW => ⟨rfl, by rw [hU], by rw [hU]; exact hPc, va_K.moved hW.alike hKc, hDc.weaken (fun _ _ _ _ => trivial)⟩⟩ rfl rfl hl.1 rfl (lv_room (Nat.le_of_ble_eq_true rfl)) dX1_check_22 ⟨Nat.le_of_ble_eq_true rfl, Nat.le_of_ble_eq_true rfl⟩) hS (fun q _ h => hFc q h) hFc (fun r2 u2 t H1 locs ht hvm hw_u2 hB hz1 hk1 hS => ?_)
    obtain ⟨hP1, hK1, hD1⟩ := hB
    rw [ht] at hP1
    obtain ⟨hP, hD⟩ := va_join (wr := [(g0, .inr (1, [.int 0, .ref g1, .ref g2, .int u.2.2])), (g2, .inl (cD, 512, .inl (fun jx => mb_sg (u.2.1 jx))))]) (w1 := [(g1, .inl (cC, 4096, .inl (fun jx => mb_sg (u.1 jx))))]) hP hD [1] [0, 2] rfl rfl (by decide) (by decide) hk1 hFc hP1 hD1
    clear hPc hDc hFc hk1 hP1 hD1 ht
    generalize H1 = H at hP hS ⊢
    have hP : va_P (dC, dI) vwCl [(g0, .inr (1, [.int 0, .ref g1, .ref g2, .int u.2.2])), (g2, .inl (cD, 512, .inl (fun jx => mb_sg (u.2.1 jx)))), (g1, .inl (cC, 4096, .inl (fun jx => mb_sg (u.1 jx))))] H := hP
    have hD : va_D A [(g0, .inr (1, [.int 0, .ref g1, .ref g2, .int u.2.2])), (g2, .inl (cD, 512, .inl (fun jx => mb_sg (u.2.1 jx)))), (g1, .inl (cC, 4096, .inl (fun jx => mb_sg (u.1 jx))))] := hD
    have hP := hP.sub (ws' := [(g0, .inr (1, [.int 0, .ref g1, .ref g2, .int u.2.2])), (g1, .inl (cC, 4096, .inl (fun jx => mb_sg (u.1 jx)))), (g2, .inl (cD, 512, .inl (fun jx => mb_sg (u.2.1 jx))))]) [0, 2, 1] rfl
    have hD := hD.sub (ws' := [(g0, .inr (1, [.int 0, .ref g1, .ref g2, .int u.2.2])), (g1, .inl (cC, 4096, .inl (fun jx => mb_sg (u.1 jx)))), (g2, .inl (cD, 512, .inl (fun jx => mb_sg (u.2.1 jx))))]) [0, 2, 1] (by decide) rfl
    refine lv_goto (tgt := 29) hx hb dX1_check_25 (by decide) ?_
    have hP9 := hP.sub (ws' := [(g0, .inr (1, [.int 0, .ref g1, .ref g2, .int u.2.2])), (g1, .inl (cC, 4096, .inl (fun jx => mb_sg (u.1 jx)))), (g2, .inl (cD, 512, .inl (fun jx => mb_sg (u.2.1 jx))))]) [0, 1, 2] rfl
    have hD9 := hD.sub (ws' := [(g0, .inr (1, [.int 0, .ref g1, .ref g2, .int u.2.2])), (g1, .inl (cC, 4096, .inl (fun jx => mb_sg (u.1 jx)))), (g2, .inl (cD, 512, .inl (fun jx => mb_sg (u.2.1 jx))))]) [0, 1, 2] (by decide) rfl
    exact W.iret (v := r2) hx hb hr (fun t ht hW => ⟨⟨r2, u, rfl, by unfold mb_check; rw [if_neg c1, hw_u2], by rw [ht]; exact hP9, va_K.moved hW.alike hK, hD9⟩, hS.F ht⟩) hS.2.2 dX1_check_29
set_option maxHeartbeats 1000000 in
set_option maxRecDepth 100000 in
/-- the reference: rowCheck -/
theorem c_mrowCheck (l : Launch) (dC : Nat → ClassId) (dI : Nat → Nat → Nat) (sz : Nat) (g0 g1 g2 : Nat) (cC cD : ClassId) (u : Bk_) (n : Int32) (hu : mb_inv u) : Met l yX1_rowCheck wsX1_rowCheck ({ frames := 1, cells := 0, slots := 0, locals := 26 }) (va_Pc [.ref g0, .int n] (fun U => U.heap.size = sz ∧ va_P (dC, dI) vwCl [(g0, .inr (1, [.int 0, .ref g1, .ref g2, .int u.2.2])), (g1, .inl (cC, 4096, .inl (fun jx => mb_sg (u.1 jx)))), (g2, .inl (cD, 512, .inl (fun jx => mb_sg (u.2.1 jx))))] U.heap ∧ va_K (dC, dI) vwCl [(cC, .byte), (cD, .byte)] U ∧ va_D (fun _ => True) [(g0, .inr (1, [.int 0, .ref g1, .ref g2, .int u.2.2])), (g1, .inl (cC, 4096, .inl (fun jx => mb_sg (u.1 jx)))), (g2, .inl (cD, 512, .inl (fun jx => mb_sg (u.2.1 jx))))])) (va_Qi (fun (r : Int32) (u2 : Bk_) => mb_rowCheck u n = (r, u2)) (at_W dC dI (va_A [(g0, .inr (1, [.int 0, .ref g1, .ref g2, .int u.2.2])), (g1, .inl (cC, 4096, .inl (fun jx => mb_sg (u.1 jx)))), (g2, .inl (cD, 512, .inl (fun jx => mb_sg (u.2.1 jx))))] sz) [(cC, .byte), (cD, .byte)] (bw_X1 g0 g1 g2 cC cD)) (va_A [(g0, .inr (1, [.int 0, .ref g1, .ref g2, .int u.2.2])), (g1, .inl (cC, 4096, .inl (fun jx => mb_sg (u.1 jx)))), (g2, .inl (cD, 512, .inl (fun jx => mb_sg (u.2.1 jx))))] sz)) 0 0 (va_A [(g0, .inr (1, [.int 0, .ref g1, .ref g2, .int u.2.2])), (g1, .inl (cC, 4096, .inl (fun jx => mb_sg (u.1 jx)))), (g2, .inl (cD, 512, .inl (fun jx => mb_sg (u.2.1 jx))))] sz) := by
  refine Met.ofW (cc := cX1_rowCheck) (maxL := 2) (ret := (some .int)) (by decide) rfl ?_
  intro p e s m args below meth c s₁ B hml hv
  obtain ⟨rfl, hsz, hP, hK, hD0⟩ := hv
  have hx := B.exec
  have hb := B.bytes
  have hr := B.returns
  have hts := atoms_spec (ws := wsX1_rowCheck) B.pre
  have hown : s.vm.findClass RX1 = some m.cls := findClass_of_methodNamed B.named
  have hlocks := B.notSynchronized
  subst hsz
  have hD := hD0.self (sz := s.heap.size)
  generalize hAe : va_A [(g0, .inr (1, [.int 0, .ref g1, .ref g2, .int u.2.2])), (g1, .inl (cC, 4096, .inl (fun jx => mb_sg (u.1 jx)))), (g2, .inl (cD, 512, .inl (fun jx => mb_sg (u.2.1 jx))))] s.heap.size = A at hD ⊢
  have hA : ∀ q : Nat, s.heap.size ≤ q → A q := fun q h => by rw [← hAe]; exact Or.inr h
  have hS : va_S A s.heap s.heap [] := va_S.rf
  have hP : va_P (dC, dI) vwCl [(g0, .inr (1, [.int 0, .ref g1, .ref g2, .int u.2.2])), (g1, .inl (cC, 4096, .inl (fun jx => mb_sg (u.1 jx)))), (g2, .inl (cD, 512, .inl (fun jx => mb_sg (u.2.1 jx))))] s.heap := hP
  have hl := lv_entry ([.ref g0, .int n]) (n := 2) (Nat.le_of_ble_eq_true rfl)
  rw [lg_entry_eq]
  generalize (lg_sl ([.ref g0, .int n]) ++ List.replicate (2 - (lg_sl ([.ref g0, .int n])).length) Slot.unset).toArray = ls at hl ⊢
  have hl : lv_has ls 2 [(0, .ref g0), (1, .int n)] := hl
  refine lv_aload_n hx hb dX1_rowCheck_0 rfl (lv_at hl 0 rfl) ?_
  refine lv_iconst (v := 0) hx hb dX1_rowCheck_1 (by decide) ?_
  refine va_put (D := (dC, dI)) (ci := 1) (v := .int 0) (ty := .int) (C := RX1) (T := TX1) (N := 4) hx hb hts (by decide +kernel) tyX1 tyX1_ok nmX1 hown hK hP hD hS 0 rfl rfl 0 (by decide) (hts (.fieldLink RX1 16 "MemoryBankModel" "thrown" "I") (by decide +kernel)) (fun _ h9 => h9) rfl (by decide +kernel) rfl rfl (Nat.le_of_ble_eq_true rfl) dX1_rowCheck_2 (fun H locs hP hD hS => ?_)
  have hP : va_P (dC, dI) vwCl [(g0, .inr (1, [.int 0, .ref g1, .ref g2, .int u.2.2])), (g1, .inl (cC, 4096, .inl (fun jx => mb_sg (u.1 jx)))), (g2, .inl (cD, 512, .inl (fun jx => mb_sg (u.2.1 jx))))] H := hP
  have hD : va_D A [(g0, .inr (1, [.int 0, .ref g1, .ref g2, .int u.2.2])), (g1, .inl (cC, 4096, .inl (fun jx => mb_sg (u.1 jx)))), (g2, .inl (cD, 512, .inl (fun jx => mb_sg (u.2.1 jx))))] := hD
  refine lv_iconst (v := 0) hx hb dX1_rowCheck_5 (by decide) ?_
  refine lv_iload_n hx hb dX1_rowCheck_6 rfl (lv_at hl 1 rfl) ?_
  refine lv_aload_n hx hb dX1_rowCheck_7 rfl (lv_at hl 0 rfl) ?_
  refine va_get (D := (dC, dI)) (ci := 1) (v := .int u.2.2) (C := RX1) (T := TX1) (N := 4) hx hb hts (by decide +kernel) hown hK hP 0 rfl rfl 3 (by decide) (hts (.fieldLink RX1 21 "MemoryBankModel" "size" "I") (by decide +kernel)) (fun _ h9 => h9) rfl dX1_rowCheck_8 ?_
  have hPc := hP.sub (ws' := []) [] rfl
  have hDc := hD.sub (ws' := []) [] (by decide) rfl
  have hKc := hK.sub (tys' := []) [] rfl
  have hFc := va_free (wc := []) hD hS hA [] rfl
  refine va_calli (va_runS (As := [.int 0, .int n, .int u.2.2]) (rest := []) ⟨hx, hb, hml, hown, hts⟩ (c_in l dC dI H.size 0 n u.2.2 hu.1.1) (va_cwS 3 hts gX1_rowCheck_X1_in rfl rfl rfl (by decide +kernel) ⟨Nat.le_of_ble_eq_true rfl, Nat.le_of_ble_eq_true rfl⟩) ⟨fun a U g mk q => by obtain ⟨q0, q1, qP, qK, qD⟩ := q; exact ⟨q0, q1, qP, va_K.moved (u := U) (U := U.calling g mk a) (Vm.Alike.refl U.vm) qK, qD⟩, fun U hU hW => ⟨rfl, by rw [hU], by rw [hU]; exact hPc, va_K.moved hW.alike hKc, hDc.weaken (fun _ _ _ _ => trivial)⟩⟩ rfl rfl hl.1 rfl (lv_room (Nat.le_of_ble_eq_true rfl)) dX1_rowCheck_11 ⟨Nat.le_of_ble_eq_true rfl, Nat.le_of_ble_eq_true rfl⟩) hS (fun q _ h => hFc q h) hFc (fun r1 u1 t H1 locs ht hvm hw_u1 hB hz1 hk1 hS => ?_)
  obtain ⟨hP1, hK1, hD1⟩ := hB
  rw [ht] at hP1
  obtain ⟨hP, hD⟩ := va_join (wr := [(g0, .inr (1, [.int 0, .ref g1, .ref g2, .int u.2.2])), (g1, .inl (cC, 4096, .inl (fun jx => mb_sg (u.1 jx)))), (g2, .inl (cD, 512, .inl (fun jx => mb_sg (u.2.1 jx))))]) (w1 := []) hP hD [] [0, 1, 2] rfl rfl (by decide) (by decide) hk1 hFc hP1 hD1
  clear hPc hDc hFc hk1 hP1 hD1 ht
  generalize H1 = H at hP hS ⊢
  have hP : va_P (dC, dI) vwCl [(g0, .inr (1, [.int 0, .ref g1, .ref g2, .int u.2.2])), (g1, .inl (cC, 4096, .inl (fun jx => mb_sg (u.1 jx)))), (g2, .inl (cD, 512, .inl (fun jx => mb_sg (u.2.1 jx))))] H := hP
  have hD : va_D A [(g0, .inr (1, [.int 0, .ref g1, .ref g2, .int u.2.2])), (g1, .inl (cC, 4096, .inl (fun jx => mb_sg (u.1 jx)))), (g2, .inl (cD, 512, .inl (fun jx => mb_sg (u.2.1 jx))))] := hD
  subst hw_u1
  refine lv_if_eq (tgt := 29) hx hb dX1_rowCheck_14 (by decide) (fun c1 => ?_) (fun c1 => ?_)
  · refine lv_iconst (v := (-1)) hx hb dX1_rowCheck_29 (by decide) ?_
    have hP9 := hP.sub (ws' := [(g0, .inr (1, [.int 0, .ref g1, .ref g2, .int u.2.2])), (g1, .inl (cC, 4096, .inl (fun jx => mb_sg (u.1 jx)))), (g2, .inl (cD, 512, .inl (fun jx => mb_sg (u.2.1 jx))))]) [0, 1, 2] rfl
    have hD9 := hD.sub (ws' := [(g0, .inr (1, [.int 0, .ref g1, .ref g2, .int u.2.2])), (g1, .inl (cC, 4096, .inl (fun jx => mb_sg (u.1 jx)))), (g2, .inl (cD, 512, .inl (fun jx => mb_sg (u.2.1 jx))))]) [0, 1, 2] (by decide) rfl
    exact W.iret (v := (-1)) hx hb hr (fun t ht hW => ⟨⟨(-1), u, rfl, by unfold mb_rowCheck; rw [if_pos c1], by rw [ht]; exact hP9, va_K.moved hW.alike hK, hD9⟩, hS.F ht⟩) hS.2.2 dX1_rowCheck_30
  · have hq := (mb_part_iff hu.1.1).mp c1
    rw [mb_0] at hq
    have en := mb_nI hq.2.1
    have hq3 : 0 + n.toNatClampNeg ≤ 512 := by rw [mb_cl]; have := hu.1.2; omega
    refine lv_aload_n hx hb dX1_rowCheck_17 rfl (lv_at hl 0 rfl) ?_
    refine va_get (D := (dC, dI)) (ci := 1) (v := .ref g2) (C := RX1) (T := TX1) (N := 4) hx hb hts (by decide +kernel) hown hK hP 0 rfl rfl 2 (by decide) (hts (.fieldLink RX1 13 "MemoryBankModel" "row" "[B") (by decide +kernel)) (fun _ h9 => h9) rfl dX1_rowCheck_18 ?_
    refine lv_iconst (v := 0) hx hb dX1_rowCheck_21 (by decide) ?_
    refine lv_iload_n hx hb dX1_rowCheck_22 rfl (lv_at hl 1 rfl) ?_
    refine lv_topi (fun yv eyv => ?_)
    obtain rfl : yv = nI n.toNatClampNeg := eyv.trans en
    have hPc := hP.sub (ws' := [(g2, .inl (cD, 512, .inl (fun jx => mb_sg (u.2.1 jx))))]) [2] rfl
    have hDc := hD.sub (ws' := [(g2, .inl (cD, 512, .inl (fun jx => mb_sg (u.2.1 jx))))]) [2] (by decide) rfl
    have hKc := hK.sub (tys' := [(cD, .byte)]) [1] rfl
    have hFc := va_free (wc := [(g2, .inl (cD, 512, .inl (fun jx => mb_sg (u.2.1 jx))))]) hD hS hA [2] rfl
    refine va_calli (va_runS (As := [.ref g2, .int 0, .int (nI n.toNatClampNeg)]) (rest := []) ⟨hx, hb, hml, hown, hts⟩ (c_mcheckOf l dC dI H.size g2 cD 512 u.2.1 0 n.toNatClampNeg hu.2.2 hq3 (by decide)) (va_cwS 3 hts gX1_rowCheck_X1_checkOf rfl rfl rfl (by decide +kernel) ⟨Nat.le_of_ble_eq_true rfl, Nat.le_of_ble_eq_true rfl⟩) ⟨fun a U g mk q => by obtain ⟨q0, q1, qP, qK, qD⟩ := q; exact ⟨q0, q1, qP, va_K.moved (u := U) (U := U.calling g mk a) (Vm.Alike.refl U.vm) qK, qD⟩, fun U hU hW => ⟨rfl, by rw [hU], by rw [hU]; exact hPc, va_K.moved hW.alike hKc, hDc.weaken (fun _ _ _ _ => trivial)⟩⟩ rfl rfl hl.1 rfl (lv_room (Nat.le_of_ble_eq_true rfl)) dX1_rowCheck_23 ⟨Nat.le_of_ble_eq_true rfl, Nat.le_of_ble_eq_true rfl⟩) hS (fun q _ h => hFc q h) hFc (fun r2 u2 t H1 locs ht hvm hw_u2 hB hz1 hk1 hS => ?_)
    obtain ⟨hP1, hK1, hD1⟩ := hB
    rw [ht] at hP1
    obtain ⟨hP, hD⟩ := va_join (wr := [(g0, .inr (1, [.int 0, .ref g1, .ref g2, .int u.2.2])), (g1, .inl (cC, 4096, .inl (fun jx => mb_sg (u.1 jx))))]) (w1 := [(g2, .inl (cD, 512, .inl (fun jx => mb_sg (u.2.1 jx))))]) hP hD [2] [0, 1] rfl rfl (by decide) (by decide) hk1 hFc hP1 hD1
    clear hPc hDc hFc hk1 hP1 hD1 ht
    generalize H1 = H at hP hS ⊢
    have hP : va_P (dC, dI) vwCl [(g0, .inr (1, [.int 0, .ref g1, .ref g2, .int u.2.2])), (g1, .inl (cC, 4096, .inl (fun jx => mb_sg (u.1 jx)))), (g2, .inl (cD, 512, .inl (fun jx => mb_sg (u.2.1 jx))))] H := hP
    have hD : va_D A [(g0, .inr (1, [.int 0, .ref g1, .ref g2, .int u.2.2])), (g1, .inl (cC, 4096, .inl (fun jx => mb_sg (u.1 jx)))), (g2, .inl (cD, 512, .inl (fun jx => mb_sg (u.2.1 jx))))] := hD
    have hP := hP.sub (ws' := [(g0, .inr (1, [.int 0, .ref g1, .ref g2, .int u.2.2])), (g1, .inl (cC, 4096, .inl (fun jx => mb_sg (u.1 jx)))), (g2, .inl (cD, 512, .inl (fun jx => mb_sg (u.2.1 jx))))]) [0, 1, 2] rfl
    have hD := hD.sub (ws' := [(g0, .inr (1, [.int 0, .ref g1, .ref g2, .int u.2.2])), (g1, .inl (cC, 4096, .inl (fun jx => mb_sg (u.1 jx)))), (g2, .inl (cD, 512, .inl (fun jx => mb_sg (u.2.1 jx))))]) [0, 1, 2] (by decide) rfl
    refine lv_goto (tgt := 30) hx hb dX1_rowCheck_26 (by decide) ?_
    have hP9 := hP.sub (ws' := [(g0, .inr (1, [.int 0, .ref g1, .ref g2, .int u.2.2])), (g1, .inl (cC, 4096, .inl (fun jx => mb_sg (u.1 jx)))), (g2, .inl (cD, 512, .inl (fun jx => mb_sg (u.2.1 jx))))]) [0, 1, 2] rfl
    have hD9 := hD.sub (ws' := [(g0, .inr (1, [.int 0, .ref g1, .ref g2, .int u.2.2])), (g1, .inl (cC, 4096, .inl (fun jx => mb_sg (u.1 jx)))), (g2, .inl (cD, 512, .inl (fun jx => mb_sg (u.2.1 jx))))]) [0, 1, 2] (by decide) rfl
    exact W.iret (v := r2) hx hb hr (fun t ht hW => ⟨⟨r2, u, rfl, by unfold mb_rowCheck; rw [if_neg c1, hw_u2], by rw [ht]; exact hP9, va_K.moved hW.alike hK, hD9⟩, hS.F ht⟩) hS.2.2 dX1_rowCheck_30
set_option maxHeartbeats 1000000 in
set_option maxRecDepth 100000 in
/-- the reference: seal -/
theorem c_mseal (l : Launch) (dC : Nat → ClassId) (dI : Nat → Nat → Nat) (sz : Nat) (g0 g1 g2 : Nat) (cC cD : ClassId) (u : Bk_) (hu : mb_inv u) : Met l yX1_seal wsX1_seal ({ frames := 1, cells := 0, slots := 0, locals := 26 }) (va_Pc [.ref g0] (fun U => U.heap.size = sz ∧ va_P (dC, dI) vwCl [(g0, .inr (1, [.int 0, .ref g1, .ref g2, .int u.2.2])), (g1, .inl (cC, 4096, .inl (fun jx => mb_sg (u.1 jx)))), (g2, .inl (cD, 512, .inl (fun jx => mb_sg (u.2.1 jx))))] U.heap ∧ va_K (dC, dI) vwCl [(cC, .byte), (cD, .byte)] U ∧ va_D (fun _ => True) [(g0, .inr (1, [.int 0, .ref g1, .ref g2, .int u.2.2])), (g1, .inl (cC, 4096, .inl (fun jx => mb_sg (u.1 jx)))), (g2, .inl (cD, 512, .inl (fun jx => mb_sg (u.2.1 jx))))])) (va_Qi (fun (r : Int32) (u2 : Bk_) => mb_seal u = (r, u2)) (at_W dC dI (va_A [(g0, .inr (1, [.int 0, .ref g1, .ref g2, .int u.2.2])), (g1, .inl (cC, 4096, .inl (fun jx => mb_sg (u.1 jx)))), (g2, .inl (cD, 512, .inl (fun jx => mb_sg (u.2.1 jx))))] sz) [(cC, .byte), (cD, .byte)] (bw_X1 g0 g1 g2 cC cD)) (va_A [(g0, .inr (1, [.int 0, .ref g1, .ref g2, .int u.2.2])), (g1, .inl (cC, 4096, .inl (fun jx => mb_sg (u.1 jx)))), (g2, .inl (cD, 512, .inl (fun jx => mb_sg (u.2.1 jx))))] sz)) 0 0 (va_A [(g0, .inr (1, [.int 0, .ref g1, .ref g2, .int u.2.2])), (g1, .inl (cC, 4096, .inl (fun jx => mb_sg (u.1 jx)))), (g2, .inl (cD, 512, .inl (fun jx => mb_sg (u.2.1 jx))))] sz) := by
  refine Met.ofW (cc := cX1_seal) (maxL := 2) (ret := (some .boolean)) (by decide) rfl ?_
  intro p e s m args below meth c s₁ B hml hv
  obtain ⟨rfl, hsz, hP, hK, hD0⟩ := hv
  have hx := B.exec
  have hb := B.bytes
  have hr := B.returns
  have hts := atoms_spec (ws := wsX1_seal) B.pre
  have hown : s.vm.findClass RX1 = some m.cls := findClass_of_methodNamed B.named
  have hlocks := B.notSynchronized
  subst hsz
  have hD := hD0.self (sz := s.heap.size)
  generalize hAe : va_A [(g0, .inr (1, [.int 0, .ref g1, .ref g2, .int u.2.2])), (g1, .inl (cC, 4096, .inl (fun jx => mb_sg (u.1 jx)))), (g2, .inl (cD, 512, .inl (fun jx => mb_sg (u.2.1 jx))))] s.heap.size = A at hD ⊢
  have hA : ∀ q : Nat, s.heap.size ≤ q → A q := fun q h => by rw [← hAe]; exact Or.inr h
  have hS : va_S A s.heap s.heap [] := va_S.rf
  have hP : va_P (dC, dI) vwCl [(g0, .inr (1, [.int 0, .ref g1, .ref g2, .int u.2.2])), (g1, .inl (cC, 4096, .inl (fun jx => mb_sg (u.1 jx)))), (g2, .inl (cD, 512, .inl (fun jx => mb_sg (u.2.1 jx))))] s.heap := hP
  have hl := lv_entry ([.ref g0]) (n := 2) (Nat.le_of_ble_eq_true rfl)
  rw [lg_entry_eq]
  generalize (lg_sl ([.ref g0]) ++ List.replicate (2 - (lg_sl ([.ref g0])).length) Slot.unset).toArray = ls at hl ⊢
  have hl : lv_has ls 2 [(0, .ref g0)] := hl
  have hu0 := hu.1.1
  have hu2 := hu.1.2
  refine lv_aload_n hx hb dX1_seal_0 rfl (lv_at hl 0 rfl) ?_
  refine lv_iconst (v := 0) hx hb dX1_seal_1 (by decide) ?_
  refine va_put (D := (dC, dI)) (ci := 1) (v := .int 0) (ty := .int) (C := RX1) (T := TX1) (N := 4) hx hb hts (by decide +kernel) tyX1 tyX1_ok nmX1 hown hK hP hD hS 0 rfl rfl 0 (by decide) (hts (.fieldLink RX1 16 "MemoryBankModel" "thrown" "I") (by decide +kernel)) (fun _ h9 => h9) rfl (by decide +kernel) rfl rfl (Nat.le_of_ble_eq_true rfl) dX1_seal_2 (fun H locs hP hD hS => ?_)
  have hP : va_P (dC, dI) vwCl [(g0, .inr (1, [.int 0, .ref g1, .ref g2, .int u.2.2])), (g1, .inl (cC, 4096, .inl (fun jx => mb_sg (u.1 jx)))), (g2, .inl (cD, 512, .inl (fun jx => mb_sg (u.2.1 jx))))] H := hP
  have hD : va_D A [(g0, .inr (1, [.int 0, .ref g1, .ref g2, .int u.2.2])), (g1, .inl (cC, 4096, .inl (fun jx => mb_sg (u.1 jx)))), (g2, .inl (cD, 512, .inl (fun jx => mb_sg (u.2.1 jx))))] := hD
  refine lv_aload_n hx hb dX1_seal_5 rfl (lv_at hl 0 rfl) ?_
  refine va_get (D := (dC, dI)) (ci := 1) (v := .int u.2.2) (C := RX1) (T := TX1) (N := 4) hx hb hts (by decide +kernel) hown hK hP 0 rfl rfl 3 (by decide) (hts (.fieldLink RX1 21 "MemoryBankModel" "size" "I") (by decide +kernel)) (fun _ h9 => h9) rfl dX1_seal_6 ?_
  refine lv_sipush (v := 510) hx hb dX1_seal_9 (by decide) ?_
  refine lv_icmp_le (tgt := 17) hx hb dX1_seal_12 (by decide) (fun c1 => ?_) (fun c1 => ?_)
  · have hz : u.2.2.toInt ≤ 510 := by rw [mb_le, show (510 : Int32).toInt = 510 from by decide] at c1; exact c1
    have c2 : ¬ mb_room 2 u.2.2 = 0 := (mb_room_iff hu0).mpr (by rw [mb_2]; omega)
    have en := mb_nI hu0
    have hq3 : 0 + u.2.2.toNatClampNeg ≤ 512 := by rw [mb_cl]; omega
    have hz1 : (u.2.2 + 1).toInt = u.2.2.toInt + 1 := by rw [mb_add hu0 (by decide) (by rw [mb_1]; omega), mb_1]
    refine lv_aload_n hx hb dX1_seal_17 rfl (lv_at hl 0 rfl) ?_
    refine va_get (D := (dC, dI)) (ci := 1) (v := .ref g2) (C := RX1) (T := TX1) (N := 4) hx hb hts (by decide +kernel) hown hK hP 0 rfl rfl 2 (by decide) (hts (.fieldLink RX1 13 "MemoryBankModel" "row" "[B") (by decide +kernel)) (fun _ h9 => h9) rfl dX1_seal_18 ?_
    refine lv_iconst (v := 0) hx hb dX1_seal_21 (by decide) ?_
    refine lv_aload_n hx hb dX1_seal_22 rfl (lv_at hl 0 rfl) ?_
    refine va_get (D := (dC, dI)) (ci := 1) (v := .int u.2.2) (C := RX1) (T := TX1) (N := 4) hx hb hts (by decide +kernel) hown hK hP 0 rfl rfl 3 (by decide) (hts (.fieldLink RX1 21 "MemoryBankModel" "size" "I") (by decide +kernel)) (fun _ h9 => h9) rfl dX1_seal_23 ?_
    refine lv_topi (fun yv eyv => ?_)
    obtain rfl : yv = nI u.2.2.toNatClampNeg := eyv.trans en
    have hPc := hP.sub (ws' := [(g2, .inl (cD, 512, .inl (fun jx => mb_sg (u.2.1 jx))))]) [2] rfl
    have hDc := hD.sub (ws' := [(g2, .inl (cD, 512, .inl (fun jx => mb_sg (u.2.1 jx))))]) [2] (by decide) rfl
    have hKc := hK.sub (tys' := [(cD, .byte)]) [1] rfl
    have hFc := va_free (wc := [(g2, .inl (cD, 512, .inl (fun jx => mb_sg (u.2.1 jx))))]) hD hS hA [2] rfl
    refine va_calli (va_runS (As := [.ref g2, .int 0, .int (nI u.2.2.toNatClampNeg)]) (rest := []) ⟨hx, hb, hml, hown, hts⟩ (c_mcheckOf l dC dI H.size g2 cD 512 u.2.1 0 u.2.2.toNatClampNeg hu.2.2 hq3 (by decide)) (va_cwS 3 hts gX1_seal_X1_checkOf rfl rfl rfl (by decide +kernel) ⟨Nat.le_of_ble_eq_true rfl, Nat.le_of_ble_eq_true rfl⟩) ⟨fun a U g mk q => by obtain ⟨q0, q1, qP, qK, qD⟩ := q; exact ⟨q0, q1, qP, va_K.moved (u := U) (U := U.calling g mk a) (Vm.Alike.refl U.vm) qK, qD⟩, fun U hU hW => ⟨rfl, by rw [hU], by rw [hU]; exact hPc, va_K.moved hW.alike hKc, hDc.weaken (fun _ _ _ _ => trivial)⟩⟩ rfl rfl hl.1 rfl (lv_room (Nat.le_of_ble_eq_true rfl)) dX1_seal_26 ⟨Nat.le_of_ble_eq_true rfl, Nat.le_of_ble_eq_true rfl⟩) hS (fun q _ h => hFc q h) hFc (fun r3 u3 t H1 locs ht hvm hw_u3 hB hz1 hk1 hS => ?_)
    obtain ⟨hP1, hK1, hD1⟩ := hB
    rw [ht] at hP1
    obtain ⟨hP, hD⟩ := va_join (wr := [(g0, .inr (1, [.int 0, .ref g1, .ref g2, .int u.2.2])), (g1, .inl (cC, 4096, .inl (fun jx => mb_sg (u.1 jx))))]) (w1 := [(g2, .inl (cD, 512, .inl (fun jx => mb_sg (u.2.1 jx))))]) hP hD [2] [0, 1] rfl rfl (by decide) (by decide) hk1 hFc hP1 hD1
    clear hPc hDc hFc hk1 hP1 hD1 ht
    generalize H1 = H at hP hS ⊢
    have hP : va_P (dC, dI) vwCl [(g0, .inr (1, [.int 0, .ref g1, .ref g2, .int u.2.2])), (g1, .inl (cC, 4096, .inl (fun jx => mb_sg (u.1 jx)))), (g2, .inl (cD, 512, .inl (fun jx => mb_sg (u.2.1 jx))))] H := hP
    have hD : va_D A [(g0, .inr (1, [.int 0, .ref g1, .ref g2, .int u.2.2])), (g1, .inl (cC, 4096, .inl (fun jx => mb_sg (u.1 jx)))), (g2, .inl (cD, 512, .inl (fun jx => mb_sg (u.2.1 jx))))] := hD
    have hP := hP.sub (ws' := [(g0, .inr (1, [.int 0, .ref g1, .ref g2, .int u.2.2])), (g1, .inl (cC, 4096, .inl (fun jx => mb_sg (u.1 jx)))), (g2, .inl (cD, 512, .inl (fun jx => mb_sg (u.2.1 jx))))]) [0, 1, 2] rfl
    have hD := hD.sub (ws' := [(g0, .inr (1, [.int 0, .ref g1, .ref g2, .int u.2.2])), (g1, .inl (cC, 4096, .inl (fun jx => mb_sg (u.1 jx)))), (g2, .inl (cD, 512, .inl (fun jx => mb_sg (u.2.1 jx))))]) [0, 1, 2] (by decide) rfl
    subst hw_u3
    refine lv_istore_n (lv' := [(1, .int (mb_ck u.2.1 0 u.2.2.toNatClampNeg)), (0, .ref g0)]) hx hb dX1_seal_29 rfl hl (by decide) rfl (fun ls hl => ?_)
    refine lv_aload_n hx hb dX1_seal_30 rfl (lv_at hl 1 rfl) ?_
    refine va_get (D := (dC, dI)) (ci := 1) (v := .ref g2) (C := RX1) (T := TX1) (N := 4) hx hb hts (by decide +kernel) hown hK hP 0 rfl rfl 2 (by decide) (hts (.fieldLink RX1 13 "MemoryBankModel" "row" "[B") (by decide +kernel)) (fun _ h9 => h9) rfl dX1_seal_31 ?_
    refine lv_aload_n hx hb dX1_seal_34 rfl (lv_at hl 1 rfl) ?_
    refine va_get (D := (dC, dI)) (ci := 1) (v := .int u.2.2) (C := RX1) (T := TX1) (N := 4) hx hb hts (by decide +kernel) hown hK hP 0 rfl rfl 3 (by decide) (hts (.fieldLink RX1 21 "MemoryBankModel" "size" "I") (by decide +kernel)) (fun _ h9 => h9) rfl dX1_seal_35 ?_
    refine lv_iload_n hx hb dX1_seal_38 rfl (lv_at hl 0 rfl) ?_
    refine lv_bipush (v := 8) hx hb dX1_seal_39 (by decide) ?_
    refine lv_ishr hx hb dX1_seal_41 ?_
    refine lv_i2b (v := ((mb_ck u.2.1 0 u.2.2.toNatClampNeg) >>> (8 &&& 31)).toInt8.toInt32) hx hb dX1_seal_42 rfl ?_
    refine va_bast hx hb hK hP hD hS 2 1 rfl rfl (mb_in hu0 (by omega)) dX1_seal_43 (fun H locs hP hD hS => ?_)
    have ew : upd (fun jx => mb_sg (u.2.1 jx)) (u.2.2).toNatClampNeg (vp_nar .byte ((mb_ck u.2.1 0 u.2.2.toNatClampNeg) >>> (8 &&& 31)).toInt8.toInt32) = (fun jx => mb_sg ((mb_app u ((mb_ck u.2.1 0 u.2.2.toNatClampNeg) >>> ((8 : Int32) &&& 31))).2.1 jx)) := by rw [pk_vb, ← mb_sgand]; exact mb_sgupd _ _ _
    have hP : va_P (dC, dI) vwCl [(g0, .inr (1, [.int 0, .ref g1, .ref g2, .int u.2.2])), (g1, .inl (cC, 4096, .inl (fun jx => mb_sg (u.1 jx)))), (g2, .inl (cD, 512, .inl (upd (fun jx => mb_sg (u.2.1 jx)) (u.2.2).toNatClampNeg (vp_nar .byte ((mb_ck u.2.1 0 u.2.2.toNatClampNeg) >>> (8 &&& 31)).toInt8.toInt32))))] H := hP
    have hD : va_D A [(g0, .inr (1, [.int 0, .ref g1, .ref g2, .int u.2.2])), (g1, .inl (cC, 4096, .inl (fun jx => mb_sg (u.1 jx)))), (g2, .inl (cD, 512, .inl (upd (fun jx => mb_sg (u.2.1 jx)) (u.2.2).toNatClampNeg (vp_nar .byte ((mb_ck u.2.1 0 u.2.2.toNatClampNeg) >>> (8 &&& 31)).toInt8.toInt32))))] := hD
    rw [ew] at hP hD
    clear ew
    have hP : va_P (dC, dI) vwCl [(g0, .inr (1, [.int 0, .ref g1, .ref g2, .int u.2.2])), (g1, .inl (cC, 4096, .inl (fun jx => mb_sg (u.1 jx)))), (g2, .inl (cD, 512, .inl (fun jx => mb_sg ((mb_app u ((mb_ck u.2.1 0 u.2.2.toNatClampNeg) >>> ((8 : Int32) &&& 31))).2.1 jx))))] H := hP
    have hD : va_D A [(g0, .inr (1, [.int 0, .ref g1, .ref g2, .int u.2.2])), (g1, .inl (cC, 4096, .inl (fun jx => mb_sg (u.1 jx)))), (g2, .inl (cD, 512, .inl (fun jx => mb_sg ((mb_app u ((mb_ck u.2.1 0 u.2.2.toNatClampNeg) >>> ((8 : Int32) &&& 31))).2.1 jx))))] := hD
    refine lv_aload_n hx hb dX1_seal_44 rfl (lv_at hl 1 rfl) ?_
    refine va_get (D := (dC, dI)) (ci := 1) (v := .ref g2) (C := RX1) (T := TX1) (N := 4) hx hb hts (by decide +kernel) hown hK hP 0 rfl rfl 2 (by decide) (hts (.fieldLink RX1 13 "MemoryBankModel" "row" "[B") (by decide +kernel)) (fun _ h9 => h9) rfl dX1_seal_45 ?_
    refine lv_aload_n hx hb dX1_seal_48 rfl (lv_at hl 1 rfl) ?_
    refine va_get (D := (dC, dI)) (ci := 1) (v := .int u.2.2) (C := RX1) (T := TX1) (N := 4) hx hb hts (by decide +kernel) hown hK hP 0 rfl rfl 3 (by decide) (hts (.fieldLink RX1 21 "MemoryBankModel" "size" "I") (by decide +kernel)) (fun _ h9 => h9) rfl dX1_seal_49 ?_
    refine lv_iconst (v := 1) hx hb dX1_seal_52 (by decide) ?_
    refine lv_iadd hx hb dX1_seal_53 ?_
    refine lv_iload_n hx hb dX1_seal_54 rfl (lv_at hl 0 rfl) ?_
    refine lv_i2b (v := (mb_ck u.2.1 0 u.2.2.toNatClampNeg).toInt8.toInt32) hx hb dX1_seal_55 rfl ?_
    refine va_bast hx hb hK hP hD hS 2 1 rfl rfl (mb_in (by omega) (by omega)) dX1_seal_56 (fun H locs hP hD hS => ?_)
    have ew : upd (fun jx => mb_sg ((mb_app u ((mb_ck u.2.1 0 u.2.2.toNatClampNeg) >>> ((8 : Int32) &&& 31))).2.1 jx)) ((u.2.2 + 1)).toNatClampNeg (vp_nar .byte (mb_ck u.2.1 0 u.2.2.toNatClampNeg).toInt8.toInt32) = (fun jx => mb_sg ((mb_app (mb_app u ((mb_ck u.2.1 0 u.2.2.toNatClampNeg) >>> ((8 : Int32) &&& 31))) (mb_ck u.2.1 0 u.2.2.toNatClampNeg)).2.1 jx)) := by rw [pk_vb, ← mb_sgand]; exact mb_sgupd _ _ _
    have hP : va_P (dC, dI) vwCl [(g0, .inr (1, [.int 0, .ref g1, .ref g2, .int u.2.2])), (g1, .inl (cC, 4096, .inl (fun jx => mb_sg (u.1 jx)))), (g2, .inl (cD, 512, .inl (upd (fun jx => mb_sg ((mb_app u ((mb_ck u.2.1 0 u.2.2.toNatClampNeg) >>> ((8 : Int32) &&& 31))).2.1 jx)) ((u.2.2 + 1)).toNatClampNeg (vp_nar .byte (mb_ck u.2.1 0 u.2.2.toNatClampNeg).toInt8.toInt32))))] H := hP
    have hD : va_D A [(g0, .inr (1, [.int 0, .ref g1, .ref g2, .int u.2.2])), (g1, .inl (cC, 4096, .inl (fun jx => mb_sg (u.1 jx)))), (g2, .inl (cD, 512, .inl (upd (fun jx => mb_sg ((mb_app u ((mb_ck u.2.1 0 u.2.2.toNatClampNeg) >>> ((8 : Int32) &&& 31))).2.1 jx)) ((u.2.2 + 1)).toNatClampNeg (vp_nar .byte (mb_ck u.2.1 0 u.2.2.toNatClampNeg).toInt8.toInt32))))] := hD
    rw [ew] at hP hD
    clear ew
    have hP : va_P (dC, dI) vwCl [(g0, .inr (1, [.int 0, .ref g1, .ref g2, .int u.2.2])), (g1, .inl (cC, 4096, .inl (fun jx => mb_sg (u.1 jx)))), (g2, .inl (cD, 512, .inl (fun jx => mb_sg ((mb_app (mb_app u ((mb_ck u.2.1 0 u.2.2.toNatClampNeg) >>> ((8 : Int32) &&& 31))) (mb_ck u.2.1 0 u.2.2.toNatClampNeg)).2.1 jx))))] H := hP
    have hD : va_D A [(g0, .inr (1, [.int 0, .ref g1, .ref g2, .int u.2.2])), (g1, .inl (cC, 4096, .inl (fun jx => mb_sg (u.1 jx)))), (g2, .inl (cD, 512, .inl (fun jx => mb_sg ((mb_app (mb_app u ((mb_ck u.2.1 0 u.2.2.toNatClampNeg) >>> ((8 : Int32) &&& 31))) (mb_ck u.2.1 0 u.2.2.toNatClampNeg)).2.1 jx))))] := hD
    refine lv_aload_n hx hb dX1_seal_57 rfl (lv_at hl 1 rfl) ?_
    refine lv_dup hx hb dX1_seal_58 rfl ?_
    refine va_get (D := (dC, dI)) (ci := 1) (v := .int u.2.2) (C := RX1) (T := TX1) (N := 4) hx hb hts (by decide +kernel) hown hK hP 0 rfl rfl 3 (by decide) (hts (.fieldLink RX1 21 "MemoryBankModel" "size" "I") (by decide +kernel)) (fun _ h9 => h9) rfl dX1_seal_59 ?_
    refine lv_iconst (v := 2) hx hb dX1_seal_62 (by decide) ?_
    refine lv_iadd hx hb dX1_seal_63 ?_
    refine va_put (D := (dC, dI)) (ci := 1) (v := .int (u.2.2 + 2)) (ty := .int) (C := RX1) (T := TX1) (N := 4) hx hb hts (by decide +kernel) tyX1 tyX1_ok nmX1 hown hK hP hD hS 0 rfl rfl 3 (by decide) (hts (.fieldLink RX1 21 "MemoryBankModel" "size" "I") (by decide +kernel)) (fun _ h9 => h9) rfl (by decide +kernel) rfl rfl (Nat.le_of_ble_eq_true rfl) dX1_seal_64 (fun H locs hP hD hS => ?_)
    have hP : va_P (dC, dI) vwCl [(g0, .inr (1, [.int 0, .ref g1, .ref g2, .int (u.2.2 + 2)])), (g1, .inl (cC, 4096, .inl (fun jx => mb_sg (u.1 jx)))), (g2, .inl (cD, 512, .inl (fun jx => mb_sg ((mb_app (mb_app u ((mb_ck u.2.1 0 u.2.2.toNatClampNeg) >>> ((8 : Int32) &&& 31))) (mb_ck u.2.1 0 u.2.2.toNatClampNeg)).2.1 jx))))] H := hP
    have hD : va_D A [(g0, .inr (1, [.int 0, .ref g1, .ref g2, .int (u.2.2 + 2)])), (g1, .inl (cC, 4096, .inl (fun jx => mb_sg (u.1 jx)))), (g2, .inl (cD, 512, .inl (fun jx => mb_sg ((mb_app (mb_app u ((mb_ck u.2.1 0 u.2.2.toNatClampNeg) >>> ((8 : Int32) &&& 31))) (mb_ck u.2.1 0 u.2.2.toNatClampNeg)).2.1 jx))))] := hD
    refine lv_iconst (v := 1) hx hb dX1_seal_67 (by decide) ?_
    have ez : u.2.2 + 2 = (u.2.2 + 1) + 1 := by rw [Int32.add_assoc]; rfl
    rw [ez] at hP hD
    have hP : va_P (dC, dI) vwCl [(g0, .inr (1, [.int 0, .ref g1, .ref g2, .int ((u.2.2 + 1) + 1)])), (g1, .inl (cC, 4096, .inl (fun jx => mb_sg (u.1 jx)))), (g2, .inl (cD, 512, .inl (fun jx => mb_sg ((mb_app (mb_app u ((mb_ck u.2.1 0 u.2.2.toNatClampNeg) >>> ((8 : Int32) &&& 31))) (mb_ck u.2.1 0 u.2.2.toNatClampNeg)).2.1 jx))))] H := hP
    have hD : va_D A [(g0, .inr (1, [.int 0, .ref g1, .ref g2, .int ((u.2.2 + 1) + 1)])), (g1, .inl (cC, 4096, .inl (fun jx => mb_sg (u.1 jx)))), (g2, .inl (cD, 512, .inl (fun jx => mb_sg ((mb_app (mb_app u ((mb_ck u.2.1 0 u.2.2.toNatClampNeg) >>> ((8 : Int32) &&& 31))) (mb_ck u.2.1 0 u.2.2.toNatClampNeg)).2.1 jx))))] := hD
    have hP9 := hP.sub (ws' := [(g0, .inr (1, [.int 0, .ref g1, .ref g2, .int ((u.2.2 + 1) + 1)])), (g1, .inl (cC, 4096, .inl (fun jx => mb_sg (u.1 jx)))), (g2, .inl (cD, 512, .inl (fun jx => mb_sg ((mb_app (mb_app u ((mb_ck u.2.1 0 u.2.2.toNatClampNeg) >>> ((8 : Int32) &&& 31))) (mb_ck u.2.1 0 u.2.2.toNatClampNeg)).2.1 jx))))]) [0, 1, 2] rfl
    have hD9 := hD.sub (ws' := [(g0, .inr (1, [.int 0, .ref g1, .ref g2, .int ((u.2.2 + 1) + 1)])), (g1, .inl (cC, 4096, .inl (fun jx => mb_sg (u.1 jx)))), (g2, .inl (cD, 512, .inl (fun jx => mb_sg ((mb_app (mb_app u ((mb_ck u.2.1 0 u.2.2.toNatClampNeg) >>> ((8 : Int32) &&& 31))) (mb_ck u.2.1 0 u.2.2.toNatClampNeg)).2.1 jx))))]) [0, 1, 2] (by decide) rfl
    exact W.zret (v := 1) hx hb hr (by decide) (fun t ht hW => ⟨⟨1, (mb_app (mb_app u ((mb_ck u.2.1 0 u.2.2.toNatClampNeg) >>> ((8 : Int32) &&& 31))) (mb_ck u.2.1 0 u.2.2.toNatClampNeg)), rfl, by unfold mb_seal; rw [if_neg c2], by rw [ht]; exact hP9, va_K.moved hW.alike hK, hD9⟩, hS.F ht⟩) hS.2.2 dX1_seal_68
  · have c2 : mb_room 2 u.2.2 = 0 := Classical.byContradiction fun q => by have q2 := (mb_room_iff hu0).mp q; rw [mb_2] at q2; rw [mb_le, show (510 : Int32).toInt = 510 from by decide] at c1; omega
    refine lv_iconst (v := 0) hx hb dX1_seal_15 (by decide) ?_
    have hP9 := hP.sub (ws' := [(g0, .inr (1, [.int 0, .ref g1, .ref g2, .int u.2.2])), (g1, .inl (cC, 4096, .inl (fun jx => mb_sg (u.1 jx)))), (g2, .inl (cD, 512, .inl (fun jx => mb_sg (u.2.1 jx))))]) [0, 1, 2] rfl
    have hD9 := hD.sub (ws' := [(g0, .inr (1, [.int 0, .ref g1, .ref g2, .int u.2.2])), (g1, .inl (cC, 4096, .inl (fun jx => mb_sg (u.1 jx)))), (g2, .inl (cD, 512, .inl (fun jx => mb_sg (u.2.1 jx))))]) [0, 1, 2] (by decide) rfl
    exact W.zret (v := 0) hx hb hr (by decide) (fun t ht hW => ⟨⟨0, u, rfl, by unfold mb_seal; rw [if_pos c2], by rw [ht]; exact hP9, va_K.moved hW.alike hK, hD9⟩, hS.F ht⟩) hS.2.2 dX1_seal_16
set_option maxHeartbeats 1000000 in
set_option maxRecDepth 100000 in
theorem lp_mload {p : Program} {l : Launch} {e : Env} {R : Room} {s : State} {m : MethodId} {args : Array Value} {below : List Frame} {meth : Method} {c : Code} {cells slots : Nat} {Q : State → Prop} {A : Nat → Prop} {H0 : Heap} (hx : p.tables.exec = Jvm.exec) (hb : c.code = cX1_load) (hown : s.vm.findClass RX1 = some m.cls) (hts : ∀ w ∈ wsX1_load, w.before args s = true) (dC : Nat → ClassId) (dI : Nat → Nat → Nat) (g0 g1 g2 : Nat) (cC cD : ClassId) (u : Bk_) (k n a : Nat) (h1 : k + n ≤ 512) (h2 : a + n ≤ 4096) (hK : va_K (dC, dI) vwCl [(cC, .byte), (cD, .byte)] s) :
    ∀ (i j : Nat), j + i = n → ∀ (H : Heap) (locs : List Loc), va_P (dC, dI) vwCl [(g0, .inr (1, [.int 0, .ref g1, .ref g2, .int u.2.2])), (g1, .inl (cC, 4096, .inl (fun jx => mb_sg ((va_cpy u.2.1 u.1 k a (j)) jx)))), (g2, .inl (cD, 512, .inl (fun jx => mb_sg (u.2.1 jx))))] H → va_D A [(g0, .inr (1, [.int 0, .ref g1, .ref g2, .int u.2.2])), (g1, .inl (cC, 4096, .inl (fun jx => mb_sg ((va_cpy u.2.1 u.1 k a (j)) jx)))), (g2, .inl (cD, 512, .inl (fun jx => mb_sg (u.2.1 jx))))] → va_S A H0 H locs → (∀ (H : Heap) (locs : List Loc), va_P (dC, dI) vwCl [(g0, .inr (1, [.int 0, .ref g1, .ref g2, .int u.2.2])), (g1, .inl (cC, 4096, .inl (fun jx => mb_sg ((va_cpy u.2.1 u.1 k a (n)) jx)))), (g2, .inl (cD, 512, .inl (fun jx => mb_sg (u.2.1 jx))))] H → va_D A [(g0, .inr (1, [.int 0, .ref g1, .ref g2, .int u.2.2])), (g1, .inl (cC, 4096, .inl (fun jx => mb_sg ((va_cpy u.2.1 u.1 k a (n)) jx)))), (g2, .inl (cD, 512, .inl (fun jx => mb_sg (u.2.1 jx))))] → va_S A H0 H locs → ∀ ls : Array Slot, lv_has ls 5 [(0, .ref g0), (1, .int (nI k)), (2, .int (nI n)), (3, .int (nI a)), (4, .int (nI (n)))] → W p l e R s m args below meth c H locs cells slots Q (F0 m 68 ls [])) → ∀ ls : Array Slot, lv_has ls 5 [(0, .ref g0), (1, .int (nI k)), (2, .int (nI n)), (3, .int (nI a)), (4, .int (nI (j)))] → W p l e R s m args below meth c H locs cells slots Q (F0 m 38 ls []) := by
  intro i
  induction i with
  | zero =>
    intro j hj H locs hP hD hS kk ls hl
    obtain rfl : j = n := by omega
    refine lv_iload hx hb dX1_load_38 (lv_at hl 4 rfl) ?_
    refine lv_iload_n hx hb dX1_load_40 rfl (lv_at hl 2 rfl) ?_
    refine lv_icmp_ge (tgt := 68) hx hb dX1_load_41 (by decide) (fun c1 => ?_) (fun c1 => ?_)
    · exact kk H locs hP hD hS ls hl
    · exact absurd (nI_le (Nat.le_refl _) (by omega)) c1
  | succ i ih =>
    intro j hj H locs hP hD hS kk ls hl
    refine lv_iload hx hb dX1_load_38 (lv_at hl 4 rfl) ?_
    refine lv_iload_n hx hb dX1_load_40 rfl (lv_at hl 2 rfl) ?_
    refine lv_icmp_ge (tgt := 68) hx hb dX1_load_41 (by decide) (fun c1 => ?_) (fun c1 => ?_)
    · exact absurd c1 (nI_ge (by omega) (by omega))
    · refine lv_aload_n hx hb dX1_load_44 rfl (lv_at hl 0 rfl) ?_
      refine va_get (D := (dC, dI)) (ci := 1) (v := .ref g1) (C := RX1) (T := TX1) (N := 4) hx hb hts (by decide +kernel) hown hK hP 0 rfl rfl 1 (by decide) (hts (.fieldLink RX1 7 "MemoryBankModel" "memory" "[B") (by decide +kernel)) (fun _ h9 => h9) rfl dX1_load_45 ?_
      refine lv_iload_n hx hb dX1_load_48 rfl (lv_at hl 3 rfl) ?_
      refine lv_iload hx hb dX1_load_49 (lv_at hl 4 rfl) ?_
      refine lv_iadd hx hb dX1_load_51 ?_
      refine lv_topi (fun yv eyv => ?_)
      obtain rfl : yv = nI (a + j) := eyv.trans (nI_add a j)
      refine lv_aload_n hx hb dX1_load_52 rfl (lv_at hl 0 rfl) ?_
      refine va_get (D := (dC, dI)) (ci := 1) (v := .ref g2) (C := RX1) (T := TX1) (N := 4) hx hb hts (by decide +kernel) hown hK hP 0 rfl rfl 2 (by decide) (hts (.fieldLink RX1 13 "MemoryBankModel" "row" "[B") (by decide +kernel)) (fun _ h9 => h9) rfl dX1_load_53 ?_
      refine lv_iload_n hx hb dX1_load_56 rfl (lv_at hl 1 rfl) ?_
      refine lv_iload hx hb dX1_load_57 (lv_at hl 4 rfl) ?_
      refine lv_iadd hx hb dX1_load_59 ?_
      refine lv_topi (fun yv eyv => ?_)
      obtain rfl : yv = nI (k + j) := eyv.trans (nI_add k j)
      refine va_bald hx hb hK hP 2 1 rfl rfl (vp_in_nI (by omega) (by omega)) dX1_load_60 ?_
      refine lv_topi (fun yv eyv => ?_)
      obtain rfl : yv = mb_sg (u.2.1 (k + j)) := eyv.trans (by rw [nI_clamp (by omega)])
      refine va_bast hx hb hK hP hD hS 1 0 rfl rfl (vp_in_nI (by omega) (by omega)) dX1_load_61 (fun H locs hP hD hS => ?_)
      have ew : upd (fun jx => mb_sg ((va_cpy u.2.1 u.1 k a (j)) jx)) ((nI (a + j))).toNatClampNeg (vp_nar .byte (mb_sg (u.2.1 (k + j)))) = (fun jx => mb_sg ((va_cpy u.2.1 u.1 k a (j + 1)) jx)) := by rw [nI_clamp (by omega), mb_nar, mb_sgupd, mb_cpy1]
      have hP : va_P (dC, dI) vwCl [(g0, .inr (1, [.int 0, .ref g1, .ref g2, .int u.2.2])), (g1, .inl (cC, 4096, .inl (upd (fun jx => mb_sg ((va_cpy u.2.1 u.1 k a (j)) jx)) ((nI (a + j))).toNatClampNeg (vp_nar .byte (mb_sg (u.2.1 (k + j))))))), (g2, .inl (cD, 512, .inl (fun jx => mb_sg (u.2.1 jx))))] H := hP
      have hD : va_D A [(g0, .inr (1, [.int 0, .ref g1, .ref g2, .int u.2.2])), (g1, .inl (cC, 4096, .inl (upd (fun jx => mb_sg ((va_cpy u.2.1 u.1 k a (j)) jx)) ((nI (a + j))).toNatClampNeg (vp_nar .byte (mb_sg (u.2.1 (k + j))))))), (g2, .inl (cD, 512, .inl (fun jx => mb_sg (u.2.1 jx))))] := hD
      rw [ew] at hP hD
      clear ew
      have hP : va_P (dC, dI) vwCl [(g0, .inr (1, [.int 0, .ref g1, .ref g2, .int u.2.2])), (g1, .inl (cC, 4096, .inl (fun jx => mb_sg ((va_cpy u.2.1 u.1 k a (j + 1)) jx)))), (g2, .inl (cD, 512, .inl (fun jx => mb_sg (u.2.1 jx))))] H := hP
      have hD : va_D A [(g0, .inr (1, [.int 0, .ref g1, .ref g2, .int u.2.2])), (g1, .inl (cC, 4096, .inl (fun jx => mb_sg ((va_cpy u.2.1 u.1 k a (j + 1)) jx)))), (g2, .inl (cD, 512, .inl (fun jx => mb_sg (u.2.1 jx))))] := hD
      refine lv_iinc (v := nI (j + 1)) (lv' := [(4, .int (nI (j + 1))), (0, .ref g0), (1, .int (nI k)), (2, .int (nI n)), (3, .int (nI a))]) hx hb dX1_load_62 hl (k := 4) rfl (by rw [← nI_1]; rfl) (by decide) rfl (fun ls hl => ?_)
      refine lv_goto (tgt := 38) hx hb dX1_load_65 (by decide) ?_
      exact ih (j + 1) (by omega) _ _ hP hD hS kk ls (lv_sub hl [1, 2, 3, 4, 0] rfl)
set_option maxHeartbeats 1000000 in
set_option maxRecDepth 100000 in
/-- the reference: load -/
theorem c_mload (l : Launch) (dC : Nat → ClassId) (dI : Nat → Nat → Nat) (sz : Nat) (g0 g1 g2 : Nat) (cC cD : ClassId) (u : Bk_) (k n a : Int32) (hu : mb_inv u) : Met l yX1_load wsX1_load ({ frames := 1, cells := 0, slots := 0, locals := 22 }) (va_Pc [.ref g0, .int k, .int n, .int a] (fun U => U.heap.size = sz ∧ va_P (dC, dI) vwCl [(g0, .inr (1, [.int 0, .ref g1, .ref g2, .int u.2.2])), (g1, .inl (cC, 4096, .inl (fun jx => mb_sg (u.1 jx)))), (g2, .inl (cD, 512, .inl (fun jx => mb_sg (u.2.1 jx))))] U.heap ∧ va_K (dC, dI) vwCl [(cC, .byte), (cD, .byte)] U ∧ va_D (fun _ => True) [(g0, .inr (1, [.int 0, .ref g1, .ref g2, .int u.2.2])), (g1, .inl (cC, 4096, .inl (fun jx => mb_sg (u.1 jx)))), (g2, .inl (cD, 512, .inl (fun jx => mb_sg (u.2.1 jx))))])) (va_Qi (fun (r : Int32) (u2 : Bk_) => mb_load u k n a = (r, u2)) (at_W dC dI (va_A [(g0, .inr (1, [.int 0, .ref g1, .ref g2, .int u.2.2])), (g1, .inl (cC, 4096, .inl (fun jx => mb_sg (u.1 jx)))), (g2, .inl (cD, 512, .inl (fun jx => mb_sg (u.2.1 jx))))] sz) [(cC, .byte), (cD, .byte)] (bw_X1 g0 g1 g2 cC cD)) (va_A [(g0, .inr (1, [.int 0, .ref g1, .ref g2, .int u.2.2])), (g1, .inl (cC, 4096, .inl (fun jx => mb_sg (u.1 jx)))), (g2, .inl (cD, 512, .inl (fun jx => mb_sg (u.2.1 jx))))] sz)) 0 0 (va_A [(g0, .inr (1, [.int 0, .ref g1, .ref g2, .int u.2.2])), (g1, .inl (cC, 4096, .inl (fun jx => mb_sg (u.1 jx)))), (g2, .inl (cD, 512, .inl (fun jx => mb_sg (u.2.1 jx))))] sz) := by
  refine Met.ofW (cc := cX1_load) (maxL := 5) (ret := (some .boolean)) (by decide) rfl ?_
  intro p e s m args below meth c s₁ B hml hv
  obtain ⟨rfl, hsz, hP, hK, hD0⟩ := hv
  have hx := B.exec
  have hb := B.bytes
  have hr := B.returns
  have hts := atoms_spec (ws := wsX1_load) B.pre
  have hown : s.vm.findClass RX1 = some m.cls := findClass_of_methodNamed B.named
  have hlocks := B.notSynchronized
  subst hsz
  have hD := hD0.self (sz := s.heap.size)
  generalize hAe : va_A [(g0, .inr (1, [.int 0, .ref g1, .ref g2, .int u.2.2])), (g1, .inl (cC, 4096, .inl (fun jx => mb_sg (u.1 jx)))), (g2, .inl (cD, 512, .inl (fun jx => mb_sg (u.2.1 jx))))] s.heap.size = A at hD ⊢
  have hA : ∀ q : Nat, s.heap.size ≤ q → A q := fun q h => by rw [← hAe]; exact Or.inr h
  have hS : va_S A s.heap s.heap [] := va_S.rf
  have hP : va_P (dC, dI) vwCl [(g0, .inr (1, [.int 0, .ref g1, .ref g2, .int u.2.2])), (g1, .inl (cC, 4096, .inl (fun jx => mb_sg (u.1 jx)))), (g2, .inl (cD, 512, .inl (fun jx => mb_sg (u.2.1 jx))))] s.heap := hP
  have hl := lv_entry ([.ref g0, .int k, .int n, .int a]) (n := 5) (Nat.le_of_ble_eq_true rfl)
  rw [lg_entry_eq]
  generalize (lg_sl ([.ref g0, .int k, .int n, .int a]) ++ List.replicate (5 - (lg_sl ([.ref g0, .int k, .int n, .int a])).length) Slot.unset).toArray = ls at hl ⊢
  have hl : lv_has ls 5 [(0, .ref g0), (1, .int k), (2, .int n), (3, .int a)] := hl
  have hu0 := hu.1.1
  have hu2 := hu.1.2
  refine lv_aload_n hx hb dX1_load_0 rfl (lv_at hl 0 rfl) ?_
  refine lv_iconst (v := 0) hx hb dX1_load_1 (by decide) ?_
  refine va_put (D := (dC, dI)) (ci := 1) (v := .int 0) (ty := .int) (C := RX1) (T := TX1) (N := 4) hx hb hts (by decide +kernel) tyX1 tyX1_ok nmX1 hown hK hP hD hS 0 rfl rfl 0 (by decide) (hts (.fieldLink RX1 16 "MemoryBankModel" "thrown" "I") (by decide +kernel)) (fun _ h9 => h9) rfl (by decide +kernel) rfl rfl (Nat.le_of_ble_eq_true rfl) dX1_load_2 (fun H locs hP hD hS => ?_)
  have hP : va_P (dC, dI) vwCl [(g0, .inr (1, [.int 0, .ref g1, .ref g2, .int u.2.2])), (g1, .inl (cC, 4096, .inl (fun jx => mb_sg (u.1 jx)))), (g2, .inl (cD, 512, .inl (fun jx => mb_sg (u.2.1 jx))))] H := hP
  have hD : va_D A [(g0, .inr (1, [.int 0, .ref g1, .ref g2, .int u.2.2])), (g1, .inl (cC, 4096, .inl (fun jx => mb_sg (u.1 jx)))), (g2, .inl (cD, 512, .inl (fun jx => mb_sg (u.2.1 jx))))] := hD
  refine lv_iload_n hx hb dX1_load_5 rfl (lv_at hl 2 rfl) ?_
  refine lv_iconst (v := 1) hx hb dX1_load_6 (by decide) ?_
  refine lv_icmp_lt (tgt := 33) hx hb dX1_load_7 (by decide) (fun c1 => ?_) (fun c1 => ?_)
  · refine lv_iconst (v := 0) hx hb dX1_load_33 (by decide) ?_
    have hP9 := hP.sub (ws' := [(g0, .inr (1, [.int 0, .ref g1, .ref g2, .int u.2.2])), (g1, .inl (cC, 4096, .inl (fun jx => mb_sg (u.1 jx)))), (g2, .inl (cD, 512, .inl (fun jx => mb_sg (u.2.1 jx))))]) [0, 1, 2] rfl
    have hD9 := hD.sub (ws' := [(g0, .inr (1, [.int 0, .ref g1, .ref g2, .int u.2.2])), (g1, .inl (cC, 4096, .inl (fun jx => mb_sg (u.1 jx)))), (g2, .inl (cD, 512, .inl (fun jx => mb_sg (u.2.1 jx))))]) [0, 1, 2] (by decide) rfl
    exact W.zret (v := 0) hx hb hr (by decide) (fun t ht hW => ⟨⟨0, u, rfl, by unfold mb_load; rw [if_pos c1], by rw [ht]; exact hP9, va_K.moved hW.alike hK, hD9⟩, hS.F ht⟩) hS.2.2 dX1_load_34
  · refine lv_iload_n hx hb dX1_load_10 rfl (lv_at hl 1 rfl) ?_
    refine lv_iload_n hx hb dX1_load_11 rfl (lv_at hl 2 rfl) ?_
    refine lv_aload_n hx hb dX1_load_12 rfl (lv_at hl 0 rfl) ?_
    refine va_get (D := (dC, dI)) (ci := 1) (v := .int u.2.2) (C := RX1) (T := TX1) (N := 4) hx hb hts (by decide +kernel) hown hK hP 0 rfl rfl 3 (by decide) (hts (.fieldLink RX1 21 "MemoryBankModel" "size" "I") (by decide +kernel)) (fun _ h9 => h9) rfl dX1_load_13 ?_
    have hPc := hP.sub (ws' := []) [] rfl
    have hDc := hD.sub (ws' := []) [] (by decide) rfl
    have hKc := hK.sub (tys' := []) [] rfl
    have hFc := va_free (wc := []) hD hS hA [] rfl
    refine va_calli (va_runS (As := [.int k, .int n, .int u.2.2]) (rest := []) ⟨hx, hb, hml, hown, hts⟩ (c_in l dC dI H.size k n u.2.2 hu0) (va_cwS 3 hts gX1_load_X1_in rfl rfl rfl (by decide +kernel) ⟨Nat.le_of_ble_eq_true rfl, Nat.le_of_ble_eq_true rfl⟩) ⟨fun a U g mk q => by obtain ⟨q0, q1, qP, qK, qD⟩ := q; exact ⟨q0, q1, qP, va_K.moved (u := U) (U := U.calling g mk a) (Vm.Alike.refl U.vm) qK, qD⟩, fun U hU hW => ⟨rfl, by rw [hU], by rw [hU]; exact hPc, va_K.moved hW.alike hKc, hDc.weaken (fun _ _ _ _ => trivial)⟩⟩ rfl rfl hl.1 rfl (lv_room (Nat.le_of_ble_eq_true rfl)) dX1_load_16 ⟨Nat.le_of_ble_eq_true rfl, Nat.le_of_ble_eq_true rfl⟩) hS (fun q _ h => hFc q h) hFc (fun r1 u1 t H1 locs ht hvm hw_u1 hB hz1 hk1 hS => ?_)
    obtain ⟨hP1, hK1, hD1⟩ := hB
    rw [ht] at hP1
    obtain ⟨hP, hD⟩ := va_join (wr := [(g0, .inr (1, [.int 0, .ref g1, .ref g2, .int u.2.2])), (g1, .inl (cC, 4096, .inl (fun jx => mb_sg (u.1 jx)))), (g2, .inl (cD, 512, .inl (fun jx => mb_sg (u.2.1 jx))))]) (w1 := []) hP hD [] [0, 1, 2] rfl rfl (by decide) (by decide) hk1 hFc hP1 hD1
    clear hPc hDc hFc hk1 hP1 hD1 ht
    generalize H1 = H at hP hS ⊢
    have hP : va_P (dC, dI) vwCl [(g0, .inr (1, [.int 0, .ref g1, .ref g2, .int u.2.2])), (g1, .inl (cC, 4096, .inl (fun jx => mb_sg (u.1 jx)))), (g2, .inl (cD, 512, .inl (fun jx => mb_sg (u.2.1 jx))))] H := hP
    have hD : va_D A [(g0, .inr (1, [.int 0, .ref g1, .ref g2, .int u.2.2])), (g1, .inl (cC, 4096, .inl (fun jx => mb_sg (u.1 jx)))), (g2, .inl (cD, 512, .inl (fun jx => mb_sg (u.2.1 jx))))] := hD
    subst hw_u1
    refine lv_if_eq (tgt := 33) hx hb dX1_load_19 (by decide) (fun c2 => ?_) (fun c2 => ?_)
    · refine lv_iconst (v := 0) hx hb dX1_load_33 (by decide) ?_
      have hP9 := hP.sub (ws' := [(g0, .inr (1, [.int 0, .ref g1, .ref g2, .int u.2.2])), (g1, .inl (cC, 4096, .inl (fun jx => mb_sg (u.1 jx)))), (g2, .inl (cD, 512, .inl (fun jx => mb_sg (u.2.1 jx))))]) [0, 1, 2] rfl
      have hD9 := hD.sub (ws' := [(g0, .inr (1, [.int 0, .ref g1, .ref g2, .int u.2.2])), (g1, .inl (cC, 4096, .inl (fun jx => mb_sg (u.1 jx)))), (g2, .inl (cD, 512, .inl (fun jx => mb_sg (u.2.1 jx))))]) [0, 1, 2] (by decide) rfl
      exact W.zret (v := 0) hx hb hr (by decide) (fun t ht hW => ⟨⟨0, u, rfl, by unfold mb_load; rw [if_neg c1, if_pos c2], by rw [ht]; exact hP9, va_K.moved hW.alike hK, hD9⟩, hS.F ht⟩) hS.2.2 dX1_load_34
    · refine lv_iload_n hx hb dX1_load_22 rfl (lv_at hl 3 rfl) ?_
      refine lv_iload_n hx hb dX1_load_23 rfl (lv_at hl 2 rfl) ?_
      refine lv_sipush (v := 4096) hx hb dX1_load_24 (by decide) ?_
      have hPc := hP.sub (ws' := []) [] rfl
      have hDc := hD.sub (ws' := []) [] (by decide) rfl
      have hKc := hK.sub (tys' := []) [] rfl
      have hFc := va_free (wc := []) hD hS hA [] rfl
      refine va_calli (va_runS (As := [.int a, .int n, .int 4096]) (rest := []) ⟨hx, hb, hml, hown, hts⟩ (c_in l dC dI H.size a n 4096 (by decide)) (va_cwS 3 hts gX1_load_X1_in rfl rfl rfl (by decide +kernel) ⟨Nat.le_of_ble_eq_true rfl, Nat.le_of_ble_eq_true rfl⟩) ⟨fun a U g mk q => by obtain ⟨q0, q1, qP, qK, qD⟩ := q; exact ⟨q0, q1, qP, va_K.moved (u := U) (U := U.calling g mk a) (Vm.Alike.refl U.vm) qK, qD⟩, fun U hU hW => ⟨rfl, by rw [hU], by rw [hU]; exact hPc, va_K.moved hW.alike hKc, hDc.weaken (fun _ _ _ _ => trivial)⟩⟩ rfl rfl hl.1 rfl (lv_room (Nat.le_of_ble_eq_true rfl)) dX1_load_27 ⟨Nat.le_of_ble_eq_true rfl, Nat.le_of_ble_eq_true rfl⟩) hS (fun q _ h => hFc q h) hFc (fun r2 u2 t H1 locs ht hvm hw_u2 hB hz1 hk1 hS => ?_)
      obtain ⟨hP1, hK1, hD1⟩ := hB
      rw [ht] at hP1
      obtain ⟨hP, hD⟩ := va_join (wr := [(g0, .inr (1, [.int 0, .ref g1, .ref g2, .int u.2.2])), (g1, .inl (cC, 4096, .inl (fun jx => mb_sg (u.1 jx)))), (g2, .inl (cD, 512, .inl (fun jx => mb_sg (u.2.1 jx))))]) (w1 := []) hP hD [] [0, 1, 2] rfl rfl (by decide) (by decide) hk1 hFc hP1 hD1
      clear hPc hDc hFc hk1 hP1 hD1 ht
      generalize H1 = H at hP hS ⊢
      have hP : va_P (dC, dI) vwCl [(g0, .inr (1, [.int 0, .ref g1, .ref g2, .int u.2.2])), (g1, .inl (cC, 4096, .inl (fun jx => mb_sg (u.1 jx)))), (g2, .inl (cD, 512, .inl (fun jx => mb_sg (u.2.1 jx))))] H := hP
      have hD : va_D A [(g0, .inr (1, [.int 0, .ref g1, .ref g2, .int u.2.2])), (g1, .inl (cC, 4096, .inl (fun jx => mb_sg (u.1 jx)))), (g2, .inl (cD, 512, .inl (fun jx => mb_sg (u.2.1 jx))))] := hD
      subst hw_u2
      refine lv_if_ne (tgt := 35) hx hb dX1_load_30 (by decide) (fun c3 => ?_) (fun c3 => ?_)
      · have hq := (mb_part_iff hu0).mp c2
        have hq2 := (mb_part_iff (by decide)).mp c3
        rw [mb_4096] at hq2
        refine lv_iconst (v := 0) hx hb dX1_load_35 (by decide) ?_
        refine lv_istore (lv' := [(4, .int 0), (0, .ref g0), (1, .int k), (2, .int n), (3, .int a)]) hx hb dX1_load_36 hl (by decide) rfl (fun ls hl => ?_)
        have hl2 := lv_sub hl [1, 2, 3, 4, 0] rfl
        rw [mb_nI hq.1, mb_nI hq.2.1, mb_nI hq2.1] at hl2
        have hP : va_P (dC, dI) vwCl [(g0, .inr (1, [.int 0, .ref g1, .ref g2, .int u.2.2])), (g1, .inl (cC, 4096, .inl (fun jx => mb_sg ((va_cpy u.2.1 u.1 k.toNatClampNeg a.toNatClampNeg 0) jx)))), (g2, .inl (cD, 512, .inl (fun jx => mb_sg (u.2.1 jx))))] H := by rw [mb_cpy0]; exact hP
        have hD : va_D A [(g0, .inr (1, [.int 0, .ref g1, .ref g2, .int u.2.2])), (g1, .inl (cC, 4096, .inl (fun jx => mb_sg ((va_cpy u.2.1 u.1 k.toNatClampNeg a.toNatClampNeg 0) jx)))), (g2, .inl (cD, 512, .inl (fun jx => mb_sg (u.2.1 jx))))] := by rw [mb_cpy0]; exact hD
        refine lp_mload hx hb hown hts dC dI g0 g1 g2 cC cD u k.toNatClampNeg n.toNatClampNeg a.toNatClampNeg (by rw [mb_cl, mb_cl]; omega) (by rw [mb_cl, mb_cl]; omega) hK n.toNatClampNeg 0 (by omega) _ _ hP hD hS ?_ ls hl2
        intro H locs hP hD hS ls hl
        refine lv_iconst (v := 1) hx hb dX1_load_68 (by decide) ?_
        have hP9 := hP.sub (ws' := [(g0, .inr (1, [.int 0, .ref g1, .ref g2, .int u.2.2])), (g1, .inl (cC, 4096, .inl (fun jx => mb_sg ((va_cpy u.2.1 u.1 k.toNatClampNeg a.toNatClampNeg n.toNatClampNeg) jx)))), (g2, .inl (cD, 512, .inl (fun jx => mb_sg (u.2.1 jx))))]) [0, 1, 2] rfl
        have hD9 := hD.sub (ws' := [(g0, .inr (1, [.int 0, .ref g1, .ref g2, .int u.2.2])), (g1, .inl (cC, 4096, .inl (fun jx => mb_sg ((va_cpy u.2.1 u.1 k.toNatClampNeg a.toNatClampNeg n.toNatClampNeg) jx)))), (g2, .inl (cD, 512, .inl (fun jx => mb_sg (u.2.1 jx))))]) [0, 1, 2] (by decide) rfl
        exact W.zret (v := 1) hx hb hr (by decide) (fun t ht hW => ⟨⟨1, (va_cpy u.2.1 u.1 k.toNatClampNeg a.toNatClampNeg n.toNatClampNeg, u.2.1, u.2.2), rfl, by unfold mb_load; rw [if_neg c1, if_neg c2, if_neg c3], by rw [ht]; exact hP9, va_K.moved hW.alike hK, hD9⟩, hS.F ht⟩) hS.2.2 dX1_load_69
      · refine lv_iconst (v := 0) hx hb dX1_load_33 (by decide) ?_
        have hP9 := hP.sub (ws' := [(g0, .inr (1, [.int 0, .ref g1, .ref g2, .int u.2.2])), (g1, .inl (cC, 4096, .inl (fun jx => mb_sg (u.1 jx)))), (g2, .inl (cD, 512, .inl (fun jx => mb_sg (u.2.1 jx))))]) [0, 1, 2] rfl
        have hD9 := hD.sub (ws' := [(g0, .inr (1, [.int 0, .ref g1, .ref g2, .int u.2.2])), (g1, .inl (cC, 4096, .inl (fun jx => mb_sg (u.1 jx)))), (g2, .inl (cD, 512, .inl (fun jx => mb_sg (u.2.1 jx))))]) [0, 1, 2] (by decide) rfl
        exact W.zret (v := 0) hx hb hr (by decide) (fun t ht hW => ⟨⟨0, u, rfl, by unfold mb_load; rw [if_neg c1, if_neg c2, if_pos c3], by rw [ht]; exact hP9, va_K.moved hW.alike hK, hD9⟩, hS.F ht⟩) hS.2.2 dX1_load_34
set_option maxHeartbeats 1000000 in
set_option maxRecDepth 100000 in
theorem lp_mdump {p : Program} {l : Launch} {e : Env} {R : Room} {s : State} {m : MethodId} {args : Array Value} {below : List Frame} {meth : Method} {c : Code} {cells slots : Nat} {Q : State → Prop} {A : Nat → Prop} {H0 : Heap} (hx : p.tables.exec = Jvm.exec) (hb : c.code = cX1_dump) (hown : s.vm.findClass RX1 = some m.cls) (hts : ∀ w ∈ wsX1_dump, w.before args s = true) (dC : Nat → ClassId) (dI : Nat → Nat → Nat) (g0 g1 g2 : Nat) (cC cD : ClassId) (f g : Nat → Int32) (z n a : Nat) (h1 : z + n ≤ 512) (h2 : a + n ≤ 4096) (hK : va_K (dC, dI) vwCl [(cC, .byte), (cD, .byte)] s) :
    ∀ (i j : Nat), j + i = n → ∀ (H : Heap) (locs : List Loc), va_P (dC, dI) vwCl [(g0, .inr (1, [.int 0, .ref g1, .ref g2, .int (nI (z + (j)))])), (g1, .inl (cC, 4096, .inl (fun jx => mb_sg (f jx)))), (g2, .inl (cD, 512, .inl (fun jx => mb_sg ((va_cpy f g a z (j)) jx))))] H → va_D A [(g0, .inr (1, [.int 0, .ref g1, .ref g2, .int (nI (z + (j)))])), (g1, .inl (cC, 4096, .inl (fun jx => mb_sg (f jx)))), (g2, .inl (cD, 512, .inl (fun jx => mb_sg ((va_cpy f g a z (j)) jx))))] → va_S A H0 H locs → (∀ (H : Heap) (locs : List Loc), va_P (dC, dI) vwCl [(g0, .inr (1, [.int 0, .ref g1, .ref g2, .int (nI (z + (n)))])), (g1, .inl (cC, 4096, .inl (fun jx => mb_sg (f jx)))), (g2, .inl (cD, 512, .inl (fun jx => mb_sg ((va_cpy f g a z (n)) jx))))] H → va_D A [(g0, .inr (1, [.int 0, .ref g1, .ref g2, .int (nI (z + (n)))])), (g1, .inl (cC, 4096, .inl (fun jx => mb_sg (f jx)))), (g2, .inl (cD, 512, .inl (fun jx => mb_sg ((va_cpy f g a z (n)) jx))))] → va_S A H0 H locs → ∀ ls : Array Slot, lv_has ls 4 [(0, .ref g0), (1, .int (nI a)), (2, .int (nI n)), (3, .int (nI (n)))] → W p l e R s m args below meth c H locs cells slots Q (F0 m 77 ls [])) → ∀ ls : Array Slot, lv_has ls 4 [(0, .ref g0), (1, .int (nI a)), (2, .int (nI n)), (3, .int (nI (j)))] → W p l e R s m args below meth c H locs cells slots Q (F0 m 39 ls []) := by
  intro i
  induction i with
  | zero =>
    intro j hj H locs hP hD hS kk ls hl
    obtain rfl : j = n := by omega
    refine lv_iload_n hx hb dX1_dump_39 rfl (lv_at hl 3 rfl) ?_
    refine lv_iload_n hx hb dX1_dump_40 rfl (lv_at hl 2 rfl) ?_
    refine lv_icmp_ge (tgt := 77) hx hb dX1_dump_41 (by decide) (fun c1 => ?_) (fun c1 => ?_)
    · exact kk H locs hP hD hS ls hl
    · exact absurd (nI_le (Nat.le_refl _) (by omega)) c1
  | succ i ih =>
    intro j hj H locs hP hD hS kk ls hl
    refine lv_iload_n hx hb dX1_dump_39 rfl (lv_at hl 3 rfl) ?_
    refine lv_iload_n hx hb dX1_dump_40 rfl (lv_at hl 2 rfl) ?_
    refine lv_icmp_ge (tgt := 77) hx hb dX1_dump_41 (by decide) (fun c1 => ?_) (fun c1 => ?_)
    · exact absurd c1 (nI_ge (by omega) (by omega))
    · refine lv_aload_n hx hb dX1_dump_44 rfl (lv_at hl 0 rfl) ?_
      refine va_get (D := (dC, dI)) (ci := 1) (v := .ref g2) (C := RX1) (T := TX1) (N := 4) hx hb hts (by decide +kernel) hown hK hP 0 rfl rfl 2 (by decide) (hts (.fieldLink RX1 13 "MemoryBankModel" "row" "[B") (by decide +kernel)) (fun _ h9 => h9) rfl dX1_dump_45 ?_
      refine lv_aload_n hx hb dX1_dump_48 rfl (lv_at hl 0 rfl) ?_
      refine va_get (D := (dC, dI)) (ci := 1) (v := .int (nI (z + (j)))) (C := RX1) (T := TX1) (N := 4) hx hb hts (by decide +kernel) hown hK hP 0 rfl rfl 3 (by decide) (hts (.fieldLink RX1 21 "MemoryBankModel" "size" "I") (by decide +kernel)) (fun _ h9 => h9) rfl dX1_dump_49 ?_
      refine lv_aload_n hx hb dX1_dump_52 rfl (lv_at hl 0 rfl) ?_
      refine va_get (D := (dC, dI)) (ci := 1) (v := .ref g1) (C := RX1) (T := TX1) (N := 4) hx hb hts (by decide +kernel) hown hK hP 0 rfl rfl 1 (by decide) (hts (.fieldLink RX1 7 "MemoryBankModel" "memory" "[B") (by decide +kernel)) (fun _ h9 => h9) rfl dX1_dump_53 ?_
      refine lv_iload_n hx hb dX1_dump_56 rfl (lv_at hl 1 rfl) ?_
      refine lv_iload_n hx hb dX1_dump_57 rfl (lv_at hl 3 rfl) ?_
      refine lv_iadd hx hb dX1_dump_58 ?_
      refine lv_topi (fun yv eyv => ?_)
      obtain rfl : yv = nI (a + j) := eyv.trans (nI_add a j)
      refine va_bald hx hb hK hP 1 0 rfl rfl (vp_in_nI (by omega) (by omega)) dX1_dump_59 ?_
      refine lv_topi (fun yv eyv => ?_)
      obtain rfl : yv = mb_sg (f (a + j)) := eyv.trans (by rw [nI_clamp (by omega)])
      refine va_bast hx hb hK hP hD hS 2 1 rfl rfl (vp_in_nI (by omega) (by omega)) dX1_dump_60 (fun H locs hP hD hS => ?_)
      have ew : upd (fun jx => mb_sg ((va_cpy f g a z (j)) jx)) ((nI (z + (j)))).toNatClampNeg (vp_nar .byte (mb_sg (f (a + j)))) = (fun jx => mb_sg ((va_cpy f g a z (j + 1)) jx)) := by rw [nI_clamp (by omega), mb_nar, mb_sgupd, mb_cpy1]
      have hP : va_P (dC, dI) vwCl [(g0, .inr (1, [.int 0, .ref g1, .ref g2, .int (nI (z + (j)))])), (g1, .inl (cC, 4096, .inl (fun jx => mb_sg (f jx)))), (g2, .inl (cD, 512, .inl (upd (fun jx => mb_sg ((va_cpy f g a z (j)) jx)) ((nI (z + (j)))).toNatClampNeg (vp_nar .byte (mb_sg (f (a + j)))))))] H := hP
      have hD : va_D A [(g0, .inr (1, [.int 0, .ref g1, .ref g2, .int (nI (z + (j)))])), (g1, .inl (cC, 4096, .inl (fun jx => mb_sg (f jx)))), (g2, .inl (cD, 512, .inl (upd (fun jx => mb_sg ((va_cpy f g a z (j)) jx)) ((nI (z + (j)))).toNatClampNeg (vp_nar .byte (mb_sg (f (a + j)))))))] := hD
      rw [ew] at hP hD
      clear ew
      have hP : va_P (dC, dI) vwCl [(g0, .inr (1, [.int 0, .ref g1, .ref g2, .int (nI (z + (j)))])), (g1, .inl (cC, 4096, .inl (fun jx => mb_sg (f jx)))), (g2, .inl (cD, 512, .inl (fun jx => mb_sg ((va_cpy f g a z (j + 1)) jx))))] H := hP
      have hD : va_D A [(g0, .inr (1, [.int 0, .ref g1, .ref g2, .int (nI (z + (j)))])), (g1, .inl (cC, 4096, .inl (fun jx => mb_sg (f jx)))), (g2, .inl (cD, 512, .inl (fun jx => mb_sg ((va_cpy f g a z (j + 1)) jx))))] := hD
      refine lv_aload_n hx hb dX1_dump_61 rfl (lv_at hl 0 rfl) ?_
      refine lv_dup hx hb dX1_dump_62 rfl ?_
      refine va_get (D := (dC, dI)) (ci := 1) (v := .int (nI (z + (j)))) (C := RX1) (T := TX1) (N := 4) hx hb hts (by decide +kernel) hown hK hP 0 rfl rfl 3 (by decide) (hts (.fieldLink RX1 21 "MemoryBankModel" "size" "I") (by decide +kernel)) (fun _ h9 => h9) rfl dX1_dump_63 ?_
      refine lv_iconst (v := 1) hx hb dX1_dump_66 (by decide) ?_
      refine lv_iadd hx hb dX1_dump_67 ?_
      refine lv_topi (fun yv eyv => ?_)
      obtain rfl : yv = nI (z + (j + 1)) := eyv.trans (nI_1 (z + j))
      refine va_put (D := (dC, dI)) (ci := 1) (v := .int (nI (z + (j + 1)))) (ty := .int) (C := RX1) (T := TX1) (N := 4) hx hb hts (by decide +kernel) tyX1 tyX1_ok nmX1 hown hK hP hD hS 0 rfl rfl 3 (by decide) (hts (.fieldLink RX1 21 "MemoryBankModel" "size" "I") (by decide +kernel)) (fun _ h9 => h9) rfl (by decide +kernel) rfl rfl (Nat.le_of_ble_eq_true rfl) dX1_dump_68 (fun H locs hP hD hS => ?_)
      have hP : va_P (dC, dI) vwCl [(g0, .inr (1, [.int 0, .ref g1, .ref g2, .int (nI (z + (j + 1)))])), (g1, .inl (cC, 4096, .inl (fun jx => mb_sg (f jx)))), (g2, .inl (cD, 512, .inl (fun jx => mb_sg ((va_cpy f g a z (j + 1)) jx))))] H := hP
      have hD : va_D A [(g0, .inr (1, [.int 0, .ref g1, .ref g2, .int (nI (z + (j + 1)))])), (g1, .inl (cC, 4096, .inl (fun jx => mb_sg (f jx)))), (g2, .inl (cD, 512, .inl (fun jx => mb_sg ((va_cpy f g a z (j + 1)) jx))))] := hD
      refine lv_iinc (v := nI (j + 1)) (lv' := [(3, .int (nI (j + 1))), (0, .ref g0), (1, .int (nI a)), (2, .int (nI n))]) hx hb dX1_dump_71 hl (k := 3) rfl (by rw [← nI_1]; rfl) (by decide) rfl (fun ls hl => ?_)
      refine lv_goto (tgt := 39) hx hb dX1_dump_74 (by decide) ?_
      exact ih (j + 1) (by omega) _ _ hP hD hS kk ls (lv_sub hl [1, 2, 3, 0] rfl)
set_option maxHeartbeats 1000000 in
set_option maxRecDepth 100000 in
/-- the reference: dump -/
theorem c_mdump (l : Launch) (dC : Nat → ClassId) (dI : Nat → Nat → Nat) (sz : Nat) (g0 g1 g2 : Nat) (cC cD : ClassId) (u : Bk_) (a n : Int32) (hu : mb_inv u) : Met l yX1_dump wsX1_dump ({ frames := 1, cells := 0, slots := 0, locals := 22 }) (va_Pc [.ref g0, .int a, .int n] (fun U => U.heap.size = sz ∧ va_P (dC, dI) vwCl [(g0, .inr (1, [.int 0, .ref g1, .ref g2, .int u.2.2])), (g1, .inl (cC, 4096, .inl (fun jx => mb_sg (u.1 jx)))), (g2, .inl (cD, 512, .inl (fun jx => mb_sg (u.2.1 jx))))] U.heap ∧ va_K (dC, dI) vwCl [(cC, .byte), (cD, .byte)] U ∧ va_D (fun _ => True) [(g0, .inr (1, [.int 0, .ref g1, .ref g2, .int u.2.2])), (g1, .inl (cC, 4096, .inl (fun jx => mb_sg (u.1 jx)))), (g2, .inl (cD, 512, .inl (fun jx => mb_sg (u.2.1 jx))))])) (va_Qi (fun (r : Int32) (u2 : Bk_) => mb_dump u a n = (r, u2)) (at_W dC dI (va_A [(g0, .inr (1, [.int 0, .ref g1, .ref g2, .int u.2.2])), (g1, .inl (cC, 4096, .inl (fun jx => mb_sg (u.1 jx)))), (g2, .inl (cD, 512, .inl (fun jx => mb_sg (u.2.1 jx))))] sz) [(cC, .byte), (cD, .byte)] (bw_X1 g0 g1 g2 cC cD)) (va_A [(g0, .inr (1, [.int 0, .ref g1, .ref g2, .int u.2.2])), (g1, .inl (cC, 4096, .inl (fun jx => mb_sg (u.1 jx)))), (g2, .inl (cD, 512, .inl (fun jx => mb_sg (u.2.1 jx))))] sz)) 0 0 (va_A [(g0, .inr (1, [.int 0, .ref g1, .ref g2, .int u.2.2])), (g1, .inl (cC, 4096, .inl (fun jx => mb_sg (u.1 jx)))), (g2, .inl (cD, 512, .inl (fun jx => mb_sg (u.2.1 jx))))] sz) := by
  refine Met.ofW (cc := cX1_dump) (maxL := 4) (ret := (some .boolean)) (by decide) rfl ?_
  intro p e s m args below meth c s₁ B hml hv
  obtain ⟨rfl, hsz, hP, hK, hD0⟩ := hv
  have hx := B.exec
  have hb := B.bytes
  have hr := B.returns
  have hts := atoms_spec (ws := wsX1_dump) B.pre
  have hown : s.vm.findClass RX1 = some m.cls := findClass_of_methodNamed B.named
  have hlocks := B.notSynchronized
  subst hsz
  have hD := hD0.self (sz := s.heap.size)
  generalize hAe : va_A [(g0, .inr (1, [.int 0, .ref g1, .ref g2, .int u.2.2])), (g1, .inl (cC, 4096, .inl (fun jx => mb_sg (u.1 jx)))), (g2, .inl (cD, 512, .inl (fun jx => mb_sg (u.2.1 jx))))] s.heap.size = A at hD ⊢
  have hA : ∀ q : Nat, s.heap.size ≤ q → A q := fun q h => by rw [← hAe]; exact Or.inr h
  have hS : va_S A s.heap s.heap [] := va_S.rf
  have hP : va_P (dC, dI) vwCl [(g0, .inr (1, [.int 0, .ref g1, .ref g2, .int u.2.2])), (g1, .inl (cC, 4096, .inl (fun jx => mb_sg (u.1 jx)))), (g2, .inl (cD, 512, .inl (fun jx => mb_sg (u.2.1 jx))))] s.heap := hP
  have hl := lv_entry ([.ref g0, .int a, .int n]) (n := 4) (Nat.le_of_ble_eq_true rfl)
  rw [lg_entry_eq]
  generalize (lg_sl ([.ref g0, .int a, .int n]) ++ List.replicate (4 - (lg_sl ([.ref g0, .int a, .int n])).length) Slot.unset).toArray = ls at hl ⊢
  have hl : lv_has ls 4 [(0, .ref g0), (1, .int a), (2, .int n)] := hl
  have hu0 := hu.1.1
  have hu2 := hu.1.2
  refine lv_aload_n hx hb dX1_dump_0 rfl (lv_at hl 0 rfl) ?_
  refine lv_iconst (v := 0) hx hb dX1_dump_1 (by decide) ?_
  refine va_put (D := (dC, dI)) (ci := 1) (v := .int 0) (ty := .int) (C := RX1) (T := TX1) (N := 4) hx hb hts (by decide +kernel) tyX1 tyX1_ok nmX1 hown hK hP hD hS 0 rfl rfl 0 (by decide) (hts (.fieldLink RX1 16 "MemoryBankModel" "thrown" "I") (by decide +kernel)) (fun _ h9 => h9) rfl (by decide +kernel) rfl rfl (Nat.le_of_ble_eq_true rfl) dX1_dump_2 (fun H locs hP hD hS => ?_)
  have hP : va_P (dC, dI) vwCl [(g0, .inr (1, [.int 0, .ref g1, .ref g2, .int u.2.2])), (g1, .inl (cC, 4096, .inl (fun jx => mb_sg (u.1 jx)))), (g2, .inl (cD, 512, .inl (fun jx => mb_sg (u.2.1 jx))))] H := hP
  have hD : va_D A [(g0, .inr (1, [.int 0, .ref g1, .ref g2, .int u.2.2])), (g1, .inl (cC, 4096, .inl (fun jx => mb_sg (u.1 jx)))), (g2, .inl (cD, 512, .inl (fun jx => mb_sg (u.2.1 jx))))] := hD
  refine lv_iload_n hx hb dX1_dump_5 rfl (lv_at hl 2 rfl) ?_
  refine lv_iconst (v := 1) hx hb dX1_dump_6 (by decide) ?_
  refine lv_icmp_lt (tgt := 35) hx hb dX1_dump_7 (by decide) (fun c1 => ?_) (fun c1 => ?_)
  · refine lv_iconst (v := 0) hx hb dX1_dump_35 (by decide) ?_
    have hP9 := hP.sub (ws' := [(g0, .inr (1, [.int 0, .ref g1, .ref g2, .int u.2.2])), (g1, .inl (cC, 4096, .inl (fun jx => mb_sg (u.1 jx)))), (g2, .inl (cD, 512, .inl (fun jx => mb_sg (u.2.1 jx))))]) [0, 1, 2] rfl
    have hD9 := hD.sub (ws' := [(g0, .inr (1, [.int 0, .ref g1, .ref g2, .int u.2.2])), (g1, .inl (cC, 4096, .inl (fun jx => mb_sg (u.1 jx)))), (g2, .inl (cD, 512, .inl (fun jx => mb_sg (u.2.1 jx))))]) [0, 1, 2] (by decide) rfl
    exact W.zret (v := 0) hx hb hr (by decide) (fun t ht hW => ⟨⟨0, u, rfl, by unfold mb_dump; rw [if_pos c1], by rw [ht]; exact hP9, va_K.moved hW.alike hK, hD9⟩, hS.F ht⟩) hS.2.2 dX1_dump_36
  · refine lv_iload_n hx hb dX1_dump_10 rfl (lv_at hl 1 rfl) ?_
    refine lv_iload_n hx hb dX1_dump_11 rfl (lv_at hl 2 rfl) ?_
    refine lv_sipush (v := 4096) hx hb dX1_dump_12 (by decide) ?_
    have hPc := hP.sub (ws' := []) [] rfl
    have hDc := hD.sub (ws' := []) [] (by decide) rfl
    have hKc := hK.sub (tys' := []) [] rfl
    have hFc := va_free (wc := []) hD hS hA [] rfl
    refine va_calli (va_runS (As := [.int a, .int n, .int 4096]) (rest := []) ⟨hx, hb, hml, hown, hts⟩ (c_in l dC dI H.size a n 4096 (by decide)) (va_cwS 3 hts gX1_dump_X1_in rfl rfl rfl (by decide +kernel) ⟨Nat.le_of_ble_eq_true rfl, Nat.le_of_ble_eq_true rfl⟩) ⟨fun a U g mk q => by obtain ⟨q0, q1, qP, qK, qD⟩ := q; exact ⟨q0, q1, qP, va_K.moved (u := U) (U := U.calling g mk a) (Vm.Alike.refl U.vm) qK, qD⟩, fun U hU hW => ⟨rfl, by rw [hU], by rw [hU]; exact hPc, va_K.moved hW.alike hKc, hDc.weaken (fun _ _ _ _ => trivial)⟩⟩ rfl rfl hl.1 rfl (lv_room (Nat.le_of_ble_eq_true rfl)) dX1_dump_15 ⟨Nat.le_of_ble_eq_true rfl, Nat.le_of_ble_eq_true rfl⟩) hS (fun q _ h => hFc q h) hFc (fun r1 u1 t H1 locs ht hvm hw_u1 hB hz1 hk1 hS => ?_)
    obtain ⟨hP1, hK1, hD1⟩ := hB
    rw [ht] at hP1
    obtain ⟨hP, hD⟩ := va_join (wr := [(g0, .inr (1, [.int 0, .ref g1, .ref g2, .int u.2.2])), (g1, .inl (cC, 4096, .inl (fun jx => mb_sg (u.1 jx)))), (g2, .inl (cD, 512, .inl (fun jx => mb_sg (u.2.1 jx))))]) (w1 := []) hP hD [] [0, 1, 2] rfl rfl (by decide) (by decide) hk1 hFc hP1 hD1
    clear hPc hDc hFc hk1 hP1 hD1 ht
    generalize H1 = H at hP hS ⊢
    have hP : va_P (dC, dI) vwCl [(g0, .inr (1, [.int 0, .ref g1, .ref g2, .int u.2.2])), (g1, .inl (cC, 4096, .inl (fun jx => mb_sg (u.1 jx)))), (g2, .inl (cD, 512, .inl (fun jx => mb_sg (u.2.1 jx))))] H := hP
    have hD : va_D A [(g0, .inr (1, [.int 0, .ref g1, .ref g2, .int u.2.2])), (g1, .inl (cC, 4096, .inl (fun jx => mb_sg (u.1 jx)))), (g2, .inl (cD, 512, .inl (fun jx => mb_sg (u.2.1 jx))))] := hD
    subst hw_u1
    refine lv_if_eq (tgt := 35) hx hb dX1_dump_18 (by decide) (fun c2 => ?_) (fun c2 => ?_)
    · refine lv_iconst (v := 0) hx hb dX1_dump_35 (by decide) ?_
      have hP9 := hP.sub (ws' := [(g0, .inr (1, [.int 0, .ref g1, .ref g2, .int u.2.2])), (g1, .inl (cC, 4096, .inl (fun jx => mb_sg (u.1 jx)))), (g2, .inl (cD, 512, .inl (fun jx => mb_sg (u.2.1 jx))))]) [0, 1, 2] rfl
      have hD9 := hD.sub (ws' := [(g0, .inr (1, [.int 0, .ref g1, .ref g2, .int u.2.2])), (g1, .inl (cC, 4096, .inl (fun jx => mb_sg (u.1 jx)))), (g2, .inl (cD, 512, .inl (fun jx => mb_sg (u.2.1 jx))))]) [0, 1, 2] (by decide) rfl
      exact W.zret (v := 0) hx hb hr (by decide) (fun t ht hW => ⟨⟨0, u, rfl, by unfold mb_dump; rw [if_neg c1, if_pos c2], by rw [ht]; exact hP9, va_K.moved hW.alike hK, hD9⟩, hS.F ht⟩) hS.2.2 dX1_dump_36
    · refine lv_aload_n hx hb dX1_dump_21 rfl (lv_at hl 0 rfl) ?_
      refine va_get (D := (dC, dI)) (ci := 1) (v := .int u.2.2) (C := RX1) (T := TX1) (N := 4) hx hb hts (by decide +kernel) hown hK hP 0 rfl rfl 3 (by decide) (hts (.fieldLink RX1 21 "MemoryBankModel" "size" "I") (by decide +kernel)) (fun _ h9 => h9) rfl dX1_dump_22 ?_
      refine lv_iload_n hx hb dX1_dump_25 rfl (lv_at hl 2 rfl) ?_
      refine lv_sipush (v := 512) hx hb dX1_dump_26 (by decide) ?_
      have hPc := hP.sub (ws' := []) [] rfl
      have hDc := hD.sub (ws' := []) [] (by decide) rfl
      have hKc := hK.sub (tys' := []) [] rfl
      have hFc := va_free (wc := []) hD hS hA [] rfl
      refine va_calli (va_runS (As := [.int u.2.2, .int n, .int 512]) (rest := []) ⟨hx, hb, hml, hown, hts⟩ (c_in l dC dI H.size u.2.2 n 512 (by decide)) (va_cwS 3 hts gX1_dump_X1_in rfl rfl rfl (by decide +kernel) ⟨Nat.le_of_ble_eq_true rfl, Nat.le_of_ble_eq_true rfl⟩) ⟨fun a U g mk q => by obtain ⟨q0, q1, qP, qK, qD⟩ := q; exact ⟨q0, q1, qP, va_K.moved (u := U) (U := U.calling g mk a) (Vm.Alike.refl U.vm) qK, qD⟩, fun U hU hW => ⟨rfl, by rw [hU], by rw [hU]; exact hPc, va_K.moved hW.alike hKc, hDc.weaken (fun _ _ _ _ => trivial)⟩⟩ rfl rfl hl.1 rfl (lv_room (Nat.le_of_ble_eq_true rfl)) dX1_dump_29 ⟨Nat.le_of_ble_eq_true rfl, Nat.le_of_ble_eq_true rfl⟩) hS (fun q _ h => hFc q h) hFc (fun r2 u2 t H1 locs ht hvm hw_u2 hB hz1 hk1 hS => ?_)
      obtain ⟨hP1, hK1, hD1⟩ := hB
      rw [ht] at hP1
      obtain ⟨hP, hD⟩ := va_join (wr := [(g0, .inr (1, [.int 0, .ref g1, .ref g2, .int u.2.2])), (g1, .inl (cC, 4096, .inl (fun jx => mb_sg (u.1 jx)))), (g2, .inl (cD, 512, .inl (fun jx => mb_sg (u.2.1 jx))))]) (w1 := []) hP hD [] [0, 1, 2] rfl rfl (by decide) (by decide) hk1 hFc hP1 hD1
      clear hPc hDc hFc hk1 hP1 hD1 ht
      generalize H1 = H at hP hS ⊢
      have hP : va_P (dC, dI) vwCl [(g0, .inr (1, [.int 0, .ref g1, .ref g2, .int u.2.2])), (g1, .inl (cC, 4096, .inl (fun jx => mb_sg (u.1 jx)))), (g2, .inl (cD, 512, .inl (fun jx => mb_sg (u.2.1 jx))))] H := hP
      have hD : va_D A [(g0, .inr (1, [.int 0, .ref g1, .ref g2, .int u.2.2])), (g1, .inl (cC, 4096, .inl (fun jx => mb_sg (u.1 jx)))), (g2, .inl (cD, 512, .inl (fun jx => mb_sg (u.2.1 jx))))] := hD
      subst hw_u2
      refine lv_if_ne (tgt := 37) hx hb dX1_dump_32 (by decide) (fun c3 => ?_) (fun c3 => ?_)
      · have hq := (mb_part_iff (by decide)).mp c2
        rw [mb_4096] at hq
        have hq2 := (mb_part_iff (by decide)).mp c3
        rw [mb_512] at hq2
        have c4 : ¬ mb_room n u.2.2 = 0 := (mb_room_iff hu0).mpr (by omega)
        have ez := mb_nI hu0
        have en := mb_nI hq.2.1
        refine lv_iconst (v := 0) hx hb dX1_dump_37 (by decide) ?_
        refine lv_istore_n (lv' := [(3, .int 0), (0, .ref g0), (1, .int a), (2, .int n)]) hx hb dX1_dump_38 rfl hl (by decide) rfl (fun ls hl => ?_)
        have hl2 := lv_sub hl [1, 2, 3, 0] rfl
        rw [mb_nI hq.1, mb_nI hq.2.1] at hl2
        have hP : va_P (dC, dI) vwCl [(g0, .inr (1, [.int 0, .ref g1, .ref g2, .int (nI (u.2.2.toNatClampNeg + 0))])), (g1, .inl (cC, 4096, .inl (fun jx => mb_sg (u.1 jx)))), (g2, .inl (cD, 512, .inl (fun jx => mb_sg ((va_cpy u.1 u.2.1 a.toNatClampNeg u.2.2.toNatClampNeg 0) jx))))] H := by rw [mb_cpy0, Nat.add_zero, ← ez]; exact hP
        have hD : va_D A [(g0, .inr (1, [.int 0, .ref g1, .ref g2, .int (nI (u.2.2.toNatClampNeg + 0))])), (g1, .inl (cC, 4096, .inl (fun jx => mb_sg (u.1 jx)))), (g2, .inl (cD, 512, .inl (fun jx => mb_sg ((va_cpy u.1 u.2.1 a.toNatClampNeg u.2.2.toNatClampNeg 0) jx))))] := by rw [mb_cpy0, Nat.add_zero, ← ez]; exact hD
        refine lp_mdump hx hb hown hts dC dI g0 g1 g2 cC cD u.1 u.2.1 u.2.2.toNatClampNeg n.toNatClampNeg a.toNatClampNeg (by rw [mb_cl, mb_cl]; omega) (by rw [mb_cl, mb_cl]; omega) hK n.toNatClampNeg 0 (by omega) _ _ hP hD hS ?_ ls hl2
        intro H locs hP hD hS ls hl
        have esum : nI (u.2.2.toNatClampNeg + n.toNatClampNeg) = u.2.2 + n := by rw [← nI_add, ← ez, ← en]
        rw [esum] at hP hD
        have hP : va_P (dC, dI) vwCl [(g0, .inr (1, [.int 0, .ref g1, .ref g2, .int (u.2.2 + n)])), (g1, .inl (cC, 4096, .inl (fun jx => mb_sg (u.1 jx)))), (g2, .inl (cD, 512, .inl (fun jx => mb_sg ((va_cpy u.1 u.2.1 a.toNatClampNeg u.2.2.toNatClampNeg n.toNatClampNeg) jx))))] H := hP
        have hD : va_D A [(g0, .inr (1, [.int 0, .ref g1, .ref g2, .int (u.2.2 + n)])), (g1, .inl (cC, 4096, .inl (fun jx => mb_sg (u.1 jx)))), (g2, .inl (cD, 512, .inl (fun jx => mb_sg ((va_cpy u.1 u.2.1 a.toNatClampNeg u.2.2.toNatClampNeg n.toNatClampNeg) jx))))] := hD
        refine lv_iconst (v := 1) hx hb dX1_dump_77 (by decide) ?_
        have hP9 := hP.sub (ws' := [(g0, .inr (1, [.int 0, .ref g1, .ref g2, .int (u.2.2 + n)])), (g1, .inl (cC, 4096, .inl (fun jx => mb_sg (u.1 jx)))), (g2, .inl (cD, 512, .inl (fun jx => mb_sg ((va_cpy u.1 u.2.1 a.toNatClampNeg u.2.2.toNatClampNeg n.toNatClampNeg) jx))))]) [0, 1, 2] rfl
        have hD9 := hD.sub (ws' := [(g0, .inr (1, [.int 0, .ref g1, .ref g2, .int (u.2.2 + n)])), (g1, .inl (cC, 4096, .inl (fun jx => mb_sg (u.1 jx)))), (g2, .inl (cD, 512, .inl (fun jx => mb_sg ((va_cpy u.1 u.2.1 a.toNatClampNeg u.2.2.toNatClampNeg n.toNatClampNeg) jx))))]) [0, 1, 2] (by decide) rfl
        exact W.zret (v := 1) hx hb hr (by decide) (fun t ht hW => ⟨⟨1, (u.1, va_cpy u.1 u.2.1 a.toNatClampNeg u.2.2.toNatClampNeg n.toNatClampNeg, u.2.2 + n), rfl, by unfold mb_dump; rw [if_neg c1, if_neg c2, if_neg c4], by rw [ht]; exact hP9, va_K.moved hW.alike hK, hD9⟩, hS.F ht⟩) hS.2.2 dX1_dump_78
      · have hq := (mb_part_iff (by decide)).mp c2
        have c4 : mb_room n u.2.2 = 0 := Classical.byContradiction fun q => by have q2 := (mb_room_iff hu0).mp q; exact (mb_part_iff (a := u.2.2) (b := n) (c := 512) (by decide)).mpr ⟨hu0, hq.2.1, by rw [mb_512]; omega⟩ c3
        refine lv_iconst (v := 0) hx hb dX1_dump_35 (by decide) ?_
        have hP9 := hP.sub (ws' := [(g0, .inr (1, [.int 0, .ref g1, .ref g2, .int u.2.2])), (g1, .inl (cC, 4096, .inl (fun jx => mb_sg (u.1 jx)))), (g2, .inl (cD, 512, .inl (fun jx => mb_sg (u.2.1 jx))))]) [0, 1, 2] rfl
        have hD9 := hD.sub (ws' := [(g0, .inr (1, [.int 0, .ref g1, .ref g2, .int u.2.2])), (g1, .inl (cC, 4096, .inl (fun jx => mb_sg (u.1 jx)))), (g2, .inl (cD, 512, .inl (fun jx => mb_sg (u.2.1 jx))))]) [0, 1, 2] (by decide) rfl
        exact W.zret (v := 0) hx hb hr (by decide) (fun t ht hW => ⟨⟨0, u, rfl, by unfold mb_dump; rw [if_neg c1, if_neg c2, if_pos c4], by rw [ht]; exact hP9, va_K.moved hW.alike hK, hD9⟩, hS.F ht⟩) hS.2.2 dX1_dump_36
