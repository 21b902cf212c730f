theorem mb_new4096 (cA : ClassId) : vp_cell cA (4096, .inl (fun jx => mb_sg ((fun _ => 0 : Nat → Int32) jx))) = arrV cA 4096 (fun _ => defaultValue .byte) := by
  show arrV cA 4096 (fun _ => .int (mb_sg 0)) = _
  rw [show mb_sg 0 = 0 from by decide]
  rfl
theorem mb_new512 (cA : ClassId) : vp_cell cA (512, .inl (fun jx => mb_sg ((fun _ => 0 : Nat → Int32) jx))) = arrV cA 512 (fun _ => defaultValue .byte) := by
  show arrV cA 512 (fun _ => .int (mb_sg 0)) = _
  rw [show mb_sg 0 = 0 from by decide]
  rfl
set_option maxHeartbeats 400000 in
set_option maxRecDepth 100000 in
/-- the reference: a new object -/
theorem c_X1_init (l : Launch) (dC : Nat → ClassId) (dI : Nat → Nat → Nat) (sz : Nat) (g0 : Nat)  : Met l yX1_init wsX1_init ({ frames := 1, cells := 2, slots := 4608, locals := 12 }) (va_Pc [.ref g0] (fun U => U.heap.size = sz ∧ va_P (dC, dI) vwCl [(g0, .inr (1, [.int 0, .null, .null, .int 0]))] U.heap ∧ va_K (dC, dI) vwCl [] U ∧ va_D (fun _ => True) [(g0, .inr (1, [.int 0, .null, .null, .int 0]))])) (va_Qv (fun (u2 : (Nat × Nat) × (ClassId × ClassId)) => True) (at_N dC dI (va_A [(g0, .inr (1, [.int 0, .null, .null, .int 0]))] sz) (fun q => bw_X1 g0 q.1.1 q.1.2 q.2.1 q.2.2 (fun _ => 0, fun _ => 0, 0)) (fun q => [(q.2.1, .byte), (q.2.2, .byte)])) (va_A [(g0, .inr (1, [.int 0, .null, .null, .int 0]))] sz)) 2 4608 (va_A [(g0, .inr (1, [.int 0, .null, .null, .int 0]))] sz) := by
  refine Met.ofW (cc := cX1_init) (maxL := 1) (ret := none) (by decide) rfl ?_
  intro p e s m args below meth c s₁ B hml hv
  obtain ⟨rfl, hsz, hP, hK, hD0⟩ := hv
  have hx := B.exec
  have hb := B.bytes
  have hr := B.returns
  have hts := atoms_spec (ws := wsX1_init) B.pre
  have hown : s.vm.findClass RX1 = some m.cls := findClass_of_methodNamed B.named
  have hlocks := B.notSynchronized
  have hin : meth.name = "<init>" := (name_of_methodNamed B.named B.method).1
  subst hsz
  have hD := hD0.self (sz := s.heap.size)
  generalize hAe : va_A [(g0, .inr (1, [.int 0, .null, .null, .int 0]))] s.heap.size = A at hD ⊢
  have hA : ∀ q : Nat, s.heap.size ≤ q → A q := fun q h => by rw [← hAe]; exact Or.inr h
  have hS : va_S A s.heap s.heap [] := va_S.rf
  have hP : va_P (dC, dI) vwCl [(g0, .inr (1, [.int 0, .null, .null, .int 0]))] s.heap := hP
  have hl := lv_entry ([.ref g0]) (n := 1) (Nat.le_of_ble_eq_true rfl)
  rw [lg_entry_eq]
  generalize (lg_sl ([.ref g0]) ++ List.replicate (1 - (lg_sl ([.ref g0])).length) Slot.unset).toArray = ls at hl ⊢
  have hl : lv_has ls 1 [(0, .ref g0)] := hl
  refine lv_aload_n hx hb dX1_init_0 rfl (lv_at hl 0 rfl) ?_
  refine W.objInit hx hb hown (hts (.methodLink RX1 1 objectInit) (by decide +kernel)) (hts (.instanceMethod objectInit) (by decide +kernel)) (hts _ (List.mem_of_getElem? (l := wsX1_init) (i := 3) rfl)) rfl (by rw [hml]; exact hl.1) rfl dX1_init_1 (Nat.le_of_ble_eq_true rfl) (Nat.le_of_ble_eq_true rfl) ?_
  refine W.eq (g2 := F0 m 4 ls []) rfl ?_
  refine lv_aload_n hx hb dX1_init_4 rfl (lv_at hl 0 rfl) ?_
  refine lv_sipush (v := 4096) hx hb dX1_init_5 (by decide) ?_
  refine va_newa (atype := .byte) (N' := 4096) (a0 := (4096, .inl (fun jx => mb_sg ((fun _ => 0 : Nat → Int32) jx)))) (ty := .byte) (n := 4096) hx hb (hts (.arrayClass .byte) (by decide +kernel)) rfl hK hP hD hS hA mb_new4096 (by decide +kernel) (by decide +kernel) (by decide +kernel) (by decide +kernel) (by decide +kernel) dX1_init_8 (fun g1 cC H hK hP hD hS => ?_)
  have hP : va_P (dC, dI) vwCl [(g0, .inr (1, [.int 0, .null, .null, .int 0])), (g1, .inl (cC, 4096, .inl (fun jx => mb_sg ((fun _ => 0 : Nat → Int32) jx))))] H := hP
  have hD : va_D A [(g0, .inr (1, [.int 0, .null, .null, .int 0])), (g1, .inl (cC, 4096, .inl (fun jx => mb_sg ((fun _ => 0 : Nat → Int32) jx))))] := hD
  have hK : va_K (dC, dI) vwCl [(cC, .byte)] s := hK
  refine W.widen (k := 1) (n := 4096) (Nat.le_of_ble_eq_true rfl) (Nat.le_of_ble_eq_true rfl) ?_
  refine va_putF (D := (dC, dI)) (ci := 1) (v := .ref g1) (ty := .array .byte) (C := RX1) (T := TX1) (N := 4) hx hb hts (by decide +kernel) tyX1 tyX1_ok nmX1 hown hK hP hD hS 0 rfl rfl 1 (by decide) (hts (.fieldLink RX1 7 "MemoryBankModel" "memory" "[B") (by decide +kernel)) (fun _ h9 => h9) rfl hin rfl (by decide +kernel) rfl rfl (Nat.le_of_ble_eq_true rfl) dX1_init_10 (fun H locs hP hD hS => ?_)
  have hP : va_P (dC, dI) vwCl [(g0, .inr (1, [.int 0, .ref g1, .null, .int 0])), (g1, .inl (cC, 4096, .inl (fun jx => mb_sg ((fun _ => 0 : Nat → Int32) jx))))] H := hP
  have hD : va_D A [(g0, .inr (1, [.int 0, .ref g1, .null, .int 0])), (g1, .inl (cC, 4096, .inl (fun jx => mb_sg ((fun _ => 0 : Nat → Int32) jx))))] := hD
  refine lv_aload_n hx hb dX1_init_13 rfl (lv_at hl 0 rfl) ?_
  refine lv_sipush (v := 512) hx hb dX1_init_14 (by decide) ?_
  refine va_newa (atype := .byte) (N' := 512) (a0 := (512, .inl (fun jx => mb_sg ((fun _ => 0 : Nat → Int32) jx)))) (ty := .byte) (n := 512) hx hb (hts (.arrayClass .byte) (by decide +kernel)) rfl hK hP hD hS hA mb_new512 (by decide +kernel) (by decide +kernel) (by decide +kernel) (by decide +kernel) (by decide +kernel) dX1_init_17 (fun g2 cD H hK hP hD hS => ?_)
  have hP : va_P (dC, dI) vwCl [(g0, .inr (1, [.int 0, .ref g1, .null, .int 0])), (g1, .inl (cC, 4096, .inl (fun jx => mb_sg ((fun _ => 0 : Nat → Int32) jx)))), (g2, .inl (cD, 512, .inl (fun jx => mb_sg ((fun _ => 0 : Nat → Int32) jx))))] H := hP
  have hD : va_D A [(g0, .inr (1, [.int 0, .ref g1, .null, .int 0])), (g1, .inl (cC, 4096, .inl (fun jx => mb_sg ((fun _ => 0 : Nat → Int32) jx)))), (g2, .inl (cD, 512, .inl (fun jx => mb_sg ((fun _ => 0 : Nat → Int32) jx))))] := hD
  have hK : va_K (dC, dI) vwCl [(cC, .byte), (cD, .byte)] s := hK
  refine W.widen (k := 2) (n := 4608) (Nat.le_of_ble_eq_true rfl) (Nat.le_of_ble_eq_true rfl) ?_
  refine va_putF (D := (dC, dI)) (ci := 1) (v := .ref g2) (ty := .array .byte) (C := RX1) (T := TX1) (N := 4) hx hb hts (by decide +kernel) tyX1 tyX1_ok nmX1 hown hK hP hD hS 0 rfl rfl 2 (by decide) (hts (.fieldLink RX1 13 "MemoryBankModel" "row" "[B") (by decide +kernel)) (fun _ h9 => h9) rfl hin rfl (by decide +kernel) rfl rfl (Nat.le_of_ble_eq_true rfl) dX1_init_19 (fun H locs hP hD hS => ?_)
  have hP : va_P (dC, dI) vwCl [(g0, .inr (1, [.int 0, .ref g1, .ref g2, .int 0])), (g1, .inl (cC, 4096, .inl (fun jx => mb_sg ((fun _ => 0 : Nat → Int32) jx)))), (g2, .inl (cD, 512, .inl (fun jx => mb_sg ((fun _ => 0 : Nat → Int32) jx))))] H := hP
  have hD : va_D A [(g0, .inr (1, [.int 0, .ref g1, .ref g2, .int 0])), (g1, .inl (cC, 4096, .inl (fun jx => mb_sg ((fun _ => 0 : Nat → Int32) jx)))), (g2, .inl (cD, 512, .inl (fun jx => mb_sg ((fun _ => 0 : Nat → Int32) jx))))] := hD
  have hP9 := hP.sub (ws' := [(g0, .inr (1, [.int 0, .ref g1, .ref g2, .int 0])), (g1, .inl (cC, 4096, .inl (fun jx => mb_sg ((fun _ => 0 : Nat → Int32) jx)))), (g2, .inl (cD, 512, .inl (fun jx => mb_sg ((fun _ => 0 : Nat → Int32) jx))))]) [0, 1, 2] rfl
  have hD9 := hD.sub (ws' := [(g0, .inr (1, [.int 0, .ref g1, .ref g2, .int 0])), (g1, .inl (cC, 4096, .inl (fun jx => mb_sg ((fun _ => 0 : Nat → Int32) jx)))), (g2, .inl (cD, 512, .inl (fun jx => mb_sg ((fun _ => 0 : Nat → Int32) jx))))]) [0, 1, 2] (by decide) rfl
  exact W.vret hx hb hr (fun t ht hW => ⟨⟨((g1, g2), (cC, cD)), rfl, trivial, by rw [ht]; exact hP9, va_K.moved hW.alike hK, hD9⟩, hS.F ht⟩) hS.2.2 dX1_init_22
