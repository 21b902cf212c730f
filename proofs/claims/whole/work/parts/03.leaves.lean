abbrev bw_X0 (h0 h1 h2 : Nat) (cA cB : ClassId) (u : Bk_) : va_W := [(h0, .inr (0, [.ref h1, .ref h2, .int u.2.2])), (h1, .inl (cA, 4096, .inl u.1)), (h2, .inl (cB, 512, .inl u.2.1))]
set_option maxHeartbeats 4000000 in
set_option maxRecDepth 100000 in
/-- isPart: its answer alone -/
theorem c_isPart (l : Launch) (dC : Nat → ClassId) (dI : Nat → Nat → Nat) (sz : Nat) (a b k : Int32)  : Met l yX0_isPart wsX0_isPart ({ frames := 0, cells := 0, slots := 0, locals := 0 }) (va_Pc [.int a, .int b, .int k] (fun U => U.heap.size = sz ∧ va_P (dC, dI) vwCl [] U.heap ∧ va_K (dC, dI) vwCl [] U ∧ va_D (fun _ => True) [])) (va_Qi (fun (r : Int32) (u2 : Unit) => mb_part a b k = r) (at_W dC dI (va_A [] sz) [] (fun _ => [])) (va_A [] sz)) 0 0 (va_A [] sz) := by
  refine Met.ofW (cc := cX0_isPart) (maxL := 3) (ret := (some .boolean)) (by decide) rfl ?_
  intro p e s m args below meth c s₁ B hml hv
  obtain ⟨rfl, hsz, hP, hK, hD0⟩ := hv
  have hx := B.exec
  have hb := B.bytes
  have hr := B.returns
  have hts := atoms_spec (ws := wsX0_isPart) B.pre
  have hown : s.vm.findClass RX0 = some m.cls := findClass_of_methodNamed B.named
  have hlocks := B.notSynchronized
  subst hsz
  have hD := hD0.self (sz := s.heap.size)
  generalize hAe : va_A [] s.heap.size = A at hD ⊢
  have hA : ∀ q : Nat, s.heap.size ≤ q → A q := fun q h => by rw [← hAe]; exact Or.inr h
  have hS : va_S A s.heap s.heap [] := va_S.rf
  have hP : va_P (dC, dI) vwCl [] s.heap := hP
  have hl := lv_entry ([.int a, .int b, .int k]) (n := 3) (Nat.le_of_ble_eq_true rfl)
  rw [lg_entry_eq]
  generalize (lg_sl ([.int a, .int b, .int k]) ++ List.replicate (3 - (lg_sl ([.int a, .int b, .int k])).length) Slot.unset).toArray = ls at hl ⊢
  have hl : lv_has ls 3 [(0, .int a), (1, .int b), (2, .int k)] := hl
  refine lv_iload_n hx hb dX0_isPart_0 rfl (lv_at hl 0 rfl) ?_
  refine lv_if_lt (tgt := 19) hx hb dX0_isPart_1 (by decide) (fun c1 => ?_) (fun c1 => ?_)
  · refine lv_iconst (v := 0) hx hb dX0_isPart_19 (by decide) ?_
    have hP9 := hP.sub (ws' := []) [] rfl
    have hD9 := hD.sub (ws' := []) [] (by decide) rfl
    exact W.zret (v := 0) hx hb hr (by decide) (fun t ht hW => ⟨⟨0, (), rfl, by unfold mb_part; rw [if_pos c1], by rw [ht]; exact hP9, va_K.moved hW.alike hK, hD9⟩, hS.F ht⟩) hS.2.2 dX0_isPart_20
  · refine lv_iload_n hx hb dX0_isPart_4 rfl (lv_at hl 1 rfl) ?_
    refine lv_if_lt (tgt := 19) hx hb dX0_isPart_5 (by decide) (fun c2 => ?_) (fun c2 => ?_)
    · refine lv_iconst (v := 0) hx hb dX0_isPart_19 (by decide) ?_
      have hP9 := hP.sub (ws' := []) [] rfl
      have hD9 := hD.sub (ws' := []) [] (by decide) rfl
      exact W.zret (v := 0) hx hb hr (by decide) (fun t ht hW => ⟨⟨0, (), rfl, by unfold mb_part; rw [if_neg c1, if_pos c2], by rw [ht]; exact hP9, va_K.moved hW.alike hK, hD9⟩, hS.F ht⟩) hS.2.2 dX0_isPart_20
    · refine lv_iload_n hx hb dX0_isPart_8 rfl (lv_at hl 1 rfl) ?_
      refine lv_iload_n hx hb dX0_isPart_9 rfl (lv_at hl 2 rfl) ?_
      refine lv_iload_n hx hb dX0_isPart_10 rfl (lv_at hl 0 rfl) ?_
      refine lv_isub hx hb dX0_isPart_11 ?_
      refine lv_icmp_gt (tgt := 19) hx hb dX0_isPart_12 (by decide) (fun c3 => ?_) (fun c3 => ?_)
      · refine lv_iconst (v := 0) hx hb dX0_isPart_19 (by decide) ?_
        have hP9 := hP.sub (ws' := []) [] rfl
        have hD9 := hD.sub (ws' := []) [] (by decide) rfl
        exact W.zret (v := 0) hx hb hr (by decide) (fun t ht hW => ⟨⟨0, (), rfl, by unfold mb_part; rw [if_neg c1, if_neg c2, if_pos c3], by rw [ht]; exact hP9, va_K.moved hW.alike hK, hD9⟩, hS.F ht⟩) hS.2.2 dX0_isPart_20
      · refine lv_iconst (v := 1) hx hb dX0_isPart_15 (by decide) ?_
        refine lv_goto (tgt := 20) hx hb dX0_isPart_16 (by decide) ?_
        have hP9 := hP.sub (ws' := []) [] rfl
        have hD9 := hD.sub (ws' := []) [] (by decide) rfl
        exact W.zret (v := 1) hx hb hr (by decide) (fun t ht hW => ⟨⟨1, (), rfl, by unfold mb_part; rw [if_neg c1, if_neg c2, if_neg c3], by rw [ht]; exact hP9, va_K.moved hW.alike hK, hD9⟩, hS.F ht⟩) hS.2.2 dX0_isPart_20
set_option maxHeartbeats 4000000 in
set_option maxRecDepth 100000 in
/-- hasRoom: its answer alone -/
theorem c_hasRoom (l : Launch) (dC : Nat → ClassId) (dI : Nat → Nat → Nat) (sz : Nat) (h0 h1 h2 : Nat) (cA cB : ClassId) (u : Bk_) (n : Int32)  : Met l yX0_hasRoom wsX0_hasRoom ({ frames := 0, cells := 0, slots := 0, locals := 0 }) (va_Pc [.ref h0, .int n] (fun U => U.heap.size = sz ∧ va_P (dC, dI) vwCl [(h0, .inr (0, [.ref h1, .ref h2, .int u.2.2])), (h1, .inl (cA, 4096, .inl u.1)), (h2, .inl (cB, 512, .inl u.2.1))] U.heap ∧ va_K (dC, dI) vwCl [(cA, .int), (cB, .int)] U ∧ va_D (fun _ => True) [(h0, .inr (0, [.ref h1, .ref h2, .int u.2.2])), (h1, .inl (cA, 4096, .inl u.1)), (h2, .inl (cB, 512, .inl u.2.1))])) (va_Qi (fun (r : Int32) (u2 : Bk_) => mb_room n u.2.2 = r ∧ u = u2) (at_W dC dI (va_A [(h0, .inr (0, [.ref h1, .ref h2, .int u.2.2])), (h1, .inl (cA, 4096, .inl u.1)), (h2, .inl (cB, 512, .inl u.2.1))] sz) [(cA, .int), (cB, .int)] (bw_X0 h0 h1 h2 cA cB)) (va_A [(h0, .inr (0, [.ref h1, .ref h2, .int u.2.2])), (h1, .inl (cA, 4096, .inl u.1)), (h2, .inl (cB, 512, .inl u.2.1))] sz)) 0 0 (va_A [(h0, .inr (0, [.ref h1, .ref h2, .int u.2.2])), (h1, .inl (cA, 4096, .inl u.1)), (h2, .inl (cB, 512, .inl u.2.1))] sz) := by
  refine Met.ofW (cc := cX0_hasRoom) (maxL := 2) (ret := (some .boolean)) (by decide) rfl ?_
  intro p e s m args below meth c s₁ B hml hv
  obtain ⟨rfl, hsz, hP, hK, hD0⟩ := hv
  have hx := B.exec
  have hb := B.bytes
  have hr := B.returns
  have hts := atoms_spec (ws := wsX0_hasRoom) B.pre
  have hown : s.vm.findClass RX0 = some m.cls := findClass_of_methodNamed B.named
  have hlocks := B.notSynchronized
  subst hsz
  have hD := hD0.self (sz := s.heap.size)
  generalize hAe : va_A [(h0, .inr (0, [.ref h1, .ref h2, .int u.2.2])), (h1, .inl (cA, 4096, .inl u.1)), (h2, .inl (cB, 512, .inl u.2.1))] s.heap.size = A at hD ⊢
  have hA : ∀ q : Nat, s.heap.size ≤ q → A q := fun q h => by rw [← hAe]; exact Or.inr h
  have hS : va_S A s.heap s.heap [] := va_S.rf
  have hP : va_P (dC, dI) vwCl [(h0, .inr (0, [.ref h1, .ref h2, .int u.2.2])), (h1, .inl (cA, 4096, .inl u.1)), (h2, .inl (cB, 512, .inl u.2.1))] s.heap := hP
  have hl := lv_entry ([.ref h0, .int n]) (n := 2) (Nat.le_of_ble_eq_true rfl)
  rw [lg_entry_eq]
  generalize (lg_sl ([.ref h0, .int n]) ++ List.replicate (2 - (lg_sl ([.ref h0, .int n])).length) Slot.unset).toArray = ls at hl ⊢
  have hl : lv_has ls 2 [(0, .ref h0), (1, .int n)] := hl
  refine lv_iload_n hx hb dX0_hasRoom_0 rfl (lv_at hl 1 rfl) ?_
  refine lv_sipush (v := 512) hx hb dX0_hasRoom_1 (by decide) ?_
  refine lv_aload_n hx hb dX0_hasRoom_4 rfl (lv_at hl 0 rfl) ?_
  refine va_get (D := (dC, dI)) (ci := 0) (v := .int u.2.2) (C := RX0) (T := TX0) (N := 3) hx hb hts (by decide +kernel) hown hK hP 0 rfl rfl 2 (by decide) (hts (.fieldLink RX0 16 "MemoryBank" "rowSize" "I") (by decide +kernel)) (fun _ h9 => h9) rfl dX0_hasRoom_5 ?_
  refine lv_isub hx hb dX0_hasRoom_8 ?_
  refine lv_icmp_gt (tgt := 16) hx hb dX0_hasRoom_9 (by decide) (fun c1 => ?_) (fun c1 => ?_)
  · refine lv_iconst (v := 0) hx hb dX0_hasRoom_16 (by decide) ?_
    have hP9 := hP.sub (ws' := [(h0, .inr (0, [.ref h1, .ref h2, .int u.2.2])), (h1, .inl (cA, 4096, .inl u.1)), (h2, .inl (cB, 512, .inl u.2.1))]) [0, 1, 2] rfl
    have hD9 := hD.sub (ws' := [(h0, .inr (0, [.ref h1, .ref h2, .int u.2.2])), (h1, .inl (cA, 4096, .inl u.1)), (h2, .inl (cB, 512, .inl u.2.1))]) [0, 1, 2] (by decide) rfl
    exact W.zret (v := 0) hx hb hr (by decide) (fun t ht hW => ⟨⟨0, u, rfl, ⟨by unfold mb_room; rw [if_pos c1], rfl⟩, by rw [ht]; exact hP9, va_K.moved hW.alike hK, hD9⟩, hS.F ht⟩) hS.2.2 dX0_hasRoom_17
  · refine lv_iconst (v := 1) hx hb dX0_hasRoom_12 (by decide) ?_
    refine lv_goto (tgt := 17) hx hb dX0_hasRoom_13 (by decide) ?_
    have hP9 := hP.sub (ws' := [(h0, .inr (0, [.ref h1, .ref h2, .int u.2.2])), (h1, .inl (cA, 4096, .inl u.1)), (h2, .inl (cB, 512, .inl u.2.1))]) [0, 1, 2] rfl
    have hD9 := hD.sub (ws' := [(h0, .inr (0, [.ref h1, .ref h2, .int u.2.2])), (h1, .inl (cA, 4096, .inl u.1)), (h2, .inl (cB, 512, .inl u.2.1))]) [0, 1, 2] (by decide) rfl
    exact W.zret (v := 1) hx hb hr (by decide) (fun t ht hW => ⟨⟨1, u, rfl, ⟨by unfold mb_room; rw [if_neg c1], rfl⟩, by rw [ht]; exact hP9, va_K.moved hW.alike hK, hD9⟩, hS.F ht⟩) hS.2.2 dX0_hasRoom_17
set_option maxHeartbeats 4000000 in
set_option maxRecDepth 100000 in
/-- append: a byte more -/
theorem c_append (l : Launch) (dC : Nat → ClassId) (dI : Nat → Nat → Nat) (sz : Nat) (h0 h1 h2 : Nat) (cA cB : ClassId) (u : Bk_) (b : Int32) (hu : 0 ≤ u.2.2.toInt ∧ u.2.2.toInt < 512) : Met l yX0_append wsX0_append ({ frames := 0, cells := 0, slots := 0, locals := 0 }) (va_Pc [.ref h0, .int b] (fun U => U.heap.size = sz ∧ va_P (dC, dI) vwCl [(h0, .inr (0, [.ref h1, .ref h2, .int u.2.2])), (h1, .inl (cA, 4096, .inl u.1)), (h2, .inl (cB, 512, .inl u.2.1))] U.heap ∧ va_K (dC, dI) vwCl [(cA, .int), (cB, .int)] U ∧ va_D (fun _ => True) [(h0, .inr (0, [.ref h1, .ref h2, .int u.2.2])), (h1, .inl (cA, 4096, .inl u.1)), (h2, .inl (cB, 512, .inl u.2.1))])) (va_Qv (fun (u2 : Bk_) => u2 = mb_app u b) (at_W dC dI (va_A [(h0, .inr (0, [.ref h1, .ref h2, .int u.2.2])), (h1, .inl (cA, 4096, .inl u.1)), (h2, .inl (cB, 512, .inl u.2.1))] sz) [(cA, .int), (cB, .int)] (bw_X0 h0 h1 h2 cA cB)) (va_A [(h0, .inr (0, [.ref h1, .ref h2, .int u.2.2])), (h1, .inl (cA, 4096, .inl u.1)), (h2, .inl (cB, 512, .inl u.2.1))] sz)) 0 0 (va_A [(h0, .inr (0, [.ref h1, .ref h2, .int u.2.2])), (h1, .inl (cA, 4096, .inl u.1)), (h2, .inl (cB, 512, .inl u.2.1))] sz) := by
  refine Met.ofW (cc := cX0_append) (maxL := 2) (ret := none) (by decide) rfl ?_
  intro p e s m args below meth c s₁ B hml hv
  obtain ⟨rfl, hsz, hP, hK, hD0⟩ := hv
  have hx := B.exec
  have hb := B.bytes
  have hr := B.returns
  have hts := atoms_spec (ws := wsX0_append) B.pre
  have hown : s.vm.findClass RX0 = some m.cls := findClass_of_methodNamed B.named
  have hlocks := B.notSynchronized
  subst hsz
  have hD := hD0.self (sz := s.heap.size)
  generalize hAe : va_A [(h0, .inr (0, [.ref h1, .ref h2, .int u.2.2])), (h1, .inl (cA, 4096, .inl u.1)), (h2, .inl (cB, 512, .inl u.2.1))] s.heap.size = A at hD ⊢
  have hA : ∀ q : Nat, s.heap.size ≤ q → A q := fun q h => by rw [← hAe]; exact Or.inr h
  have hS : va_S A s.heap s.heap [] := va_S.rf
  have hP : va_P (dC, dI) vwCl [(h0, .inr (0, [.ref h1, .ref h2, .int u.2.2])), (h1, .inl (cA, 4096, .inl u.1)), (h2, .inl (cB, 512, .inl u.2.1))] s.heap := hP
  have hl := lv_entry ([.ref h0, .int b]) (n := 2) (Nat.le_of_ble_eq_true rfl)
  rw [lg_entry_eq]
  generalize (lg_sl ([.ref h0, .int b]) ++ List.replicate (2 - (lg_sl ([.ref h0, .int b])).length) Slot.unset).toArray = ls at hl ⊢
  have hl : lv_has ls 2 [(0, .ref h0), (1, .int b)] := hl
  refine lv_aload_n hx hb dX0_append_0 rfl (lv_at hl 0 rfl) ?_
  refine va_get (D := (dC, dI)) (ci := 0) (v := .ref h2) (C := RX0) (T := TX0) (N := 3) hx hb hts (by decide +kernel) hown hK hP 0 rfl rfl 1 (by decide) (hts (.fieldLink RX0 13 "MemoryBank" "row" "[I") (by decide +kernel)) (fun _ h9 => h9) rfl dX0_append_1 ?_
  refine lv_aload_n hx hb dX0_append_4 rfl (lv_at hl 0 rfl) ?_
  refine va_get (D := (dC, dI)) (ci := 0) (v := .int u.2.2) (C := RX0) (T := TX0) (N := 3) hx hb hts (by decide +kernel) hown hK hP 0 rfl rfl 2 (by decide) (hts (.fieldLink RX0 16 "MemoryBank" "rowSize" "I") (by decide +kernel)) (fun _ h9 => h9) rfl dX0_append_5 ?_
  refine lv_iload_n hx hb dX0_append_8 rfl (lv_at hl 1 rfl) ?_
  refine lv_sipush (v := 255) hx hb dX0_append_9 (by decide) ?_
  refine lv_iand hx hb dX0_append_12 ?_
  refine va_iast hx hb hK hP hD hS 2 1 rfl rfl (mb_in hu.1 hu.2) dX0_append_13 (fun H locs hP hD hS => ?_)
  have hP : va_P (dC, dI) vwCl [(h0, .inr (0, [.ref h1, .ref h2, .int u.2.2])), (h1, .inl (cA, 4096, .inl u.1)), (h2, .inl (cB, 512, .inl (upd u.2.1 (u.2.2).toNatClampNeg (b &&& 255))))] H := hP
  have hD : va_D A [(h0, .inr (0, [.ref h1, .ref h2, .int u.2.2])), (h1, .inl (cA, 4096, .inl u.1)), (h2, .inl (cB, 512, .inl (upd u.2.1 (u.2.2).toNatClampNeg (b &&& 255))))] := hD
  refine lv_aload_n hx hb dX0_append_14 rfl (lv_at hl 0 rfl) ?_
  refine lv_dup hx hb dX0_append_15 rfl ?_
  refine va_get (D := (dC, dI)) (ci := 0) (v := .int u.2.2) (C := RX0) (T := TX0) (N := 3) hx hb hts (by decide +kernel) hown hK hP 0 rfl rfl 2 (by decide) (hts (.fieldLink RX0 16 "MemoryBank" "rowSize" "I") (by decide +kernel)) (fun _ h9 => h9) rfl dX0_append_16 ?_
  refine lv_iconst (v := 1) hx hb dX0_append_19 (by decide) ?_
  refine lv_iadd hx hb dX0_append_20 ?_
  refine va_put (D := (dC, dI)) (ci := 0) (v := .int (u.2.2 + 1)) (ty := .int) (C := RX0) (T := TX0) (N := 3) hx hb hts (by decide +kernel) tyX0 tyX0_ok nmX0 hown hK hP hD hS 0 rfl rfl 2 (by decide) (hts (.fieldLink RX0 16 "MemoryBank" "rowSize" "I") (by decide +kernel)) (fun _ h9 => h9) rfl (by decide +kernel) rfl rfl (Nat.le_of_ble_eq_true rfl) dX0_append_21 (fun H locs hP hD hS => ?_)
  have hP : va_P (dC, dI) vwCl [(h0, .inr (0, [.ref h1, .ref h2, .int (u.2.2 + 1)])), (h1, .inl (cA, 4096, .inl u.1)), (h2, .inl (cB, 512, .inl (upd u.2.1 (u.2.2).toNatClampNeg (b &&& 255))))] H := hP
  have hD : va_D A [(h0, .inr (0, [.ref h1, .ref h2, .int (u.2.2 + 1)])), (h1, .inl (cA, 4096, .inl u.1)), (h2, .inl (cB, 512, .inl (upd u.2.1 (u.2.2).toNatClampNeg (b &&& 255))))] := hD
  have hP9 := hP.sub (ws' := [(h0, .inr (0, [.ref h1, .ref h2, .int (u.2.2 + 1)])), (h1, .inl (cA, 4096, .inl u.1)), (h2, .inl (cB, 512, .inl (upd u.2.1 (u.2.2).toNatClampNeg (b &&& 255))))]) [0, 1, 2] rfl
  have hD9 := hD.sub (ws' := [(h0, .inr (0, [.ref h1, .ref h2, .int (u.2.2 + 1)])), (h1, .inl (cA, 4096, .inl u.1)), (h2, .inl (cB, 512, .inl (upd u.2.1 (u.2.2).toNatClampNeg (b &&& 255))))]) [0, 1, 2] (by decide) rfl
  exact W.vret hx hb hr (fun t ht hW => ⟨⟨mb_app u b, rfl, rfl, by rw [ht]; exact hP9, va_K.moved hW.alike hK, hD9⟩, hS.F ht⟩) hS.2.2 dX0_append_24
set_option maxHeartbeats 4000000 in
set_option maxRecDepth 100000 in
theorem lp_checkWith {p : Program} {l : Launch} {e : Env} {R : Room} {s : State} {m : MethodId} {args : Array Value} {below : List Frame} {meth : Method} {c : Code} {cells slots : Nat} {Q : State → Prop} {H : Heap} {locs : List Loc} (hx : p.tables.exec = Jvm.exec) (hb : c.code = cX0_checkWith) (hown : s.vm.findClass RX0 = some m.cls) (hts : ∀ w ∈ wsX0_checkWith, w.before args s = true) (x0 x1 : Int32) : ∀ (n k : Nat) (x : Int32), k + n = 8 → (∀ ls : Array Slot, lv_has ls 4 [(0, .int x0), (1, .int x1), (2, .int (mb_it n x)), (3, .int (nI 8))] → W p l e R s m args below meth c H locs cells slots Q (F0 m 37 ls [])) → ∀ ls : Array Slot, lv_has ls 4 [(0, .int x0), (1, .int x1), (2, .int x), (3, .int (nI k))] → W p l e R s m args below meth c H locs cells slots Q (F0 m 10 ls []) := by
  intro n
  induction n with
  | zero =>
    intro k x hk kk ls hl
    obtain rfl : k = 8 := by omega
    refine lv_iload_n hx hb dX0_checkWith_10 rfl (lv_at hl 3 rfl) ?_
    refine lv_bipush (v := 8) hx hb dX0_checkWith_11 (by decide) ?_
    refine lv_icmp_ge (tgt := 37) hx hb dX0_checkWith_13 (by decide) (fun c1 => ?_) (fun c1 => ?_)
    · exact kk ls hl
    · exact absurd (by decide) c1
  | succ n ih =>
    intro k x hk kk ls hl
    refine lv_iload_n hx hb dX0_checkWith_10 rfl (lv_at hl 3 rfl) ?_
    refine lv_bipush (v := 8) hx hb dX0_checkWith_11 (by decide) ?_
    refine lv_icmp_ge (tgt := 37) hx hb dX0_checkWith_13 (by decide) (fun c1 => ?_) (fun c1 => ?_)
    · exact absurd c1 (nI_ge (b := 8) (by omega) (by omega))
    · refine lv_iload_n hx hb dX0_checkWith_16 rfl (lv_at hl 2 rfl) ?_
      refine lv_iconst (v := 2) hx hb dX0_checkWith_17 (by decide) ?_
      refine lv_imul hx hb dX0_checkWith_18 ?_
      refine lv_istore_n (lv' := [(2, .int (x * 2)), (0, .int x0), (1, .int x1), (3, .int (nI k))]) hx hb dX0_checkWith_19 rfl hl (by decide) rfl (fun ls hl => ?_)
      refine lv_iload_n hx hb dX0_checkWith_20 rfl (lv_at hl 0 rfl) ?_
      refine lv_ldc (v := (65536)) hx hb hown (hts (.constant RX0 47 (65536)) (by decide +kernel)) dX0_checkWith_21 ?_
      refine lv_icmp_lt (tgt := 31) hx hb dX0_checkWith_23 (by decide) (fun c2 => ?_) (fun c2 => ?_)
      · have ed : mb_dbl x = (x * 2) := by unfold mb_dbl; rw [if_pos c2]
        refine lv_iinc (v := nI (k + 1)) (lv' := [(3, .int (nI (k + 1))), (2, .int (x * 2)), (0, .int x0), (1, .int x1)]) hx hb dX0_checkWith_31 hl (k := 3) rfl (by rw [← nI_1]; rfl) (by decide) rfl (fun ls hl => ?_)
        refine lv_goto (tgt := 10) hx hb dX0_checkWith_34 (by decide) ?_
        refine ih (k + 1) _ (by omega) ?_ ls (lv_sub hl [2, 3, 1, 0] rfl)
        rw [← ed]
        exact kk
      · refine lv_iload_n hx hb dX0_checkWith_26 rfl (lv_at hl 0 rfl) ?_
        refine lv_ldc (v := (69665)) hx hb hown (hts (.constant RX0 48 (69665)) (by decide +kernel)) dX0_checkWith_27 ?_
        refine lv_ixor hx hb dX0_checkWith_29 ?_
        refine lv_istore_n (lv' := [(2, .int ((x * 2) ^^^ (69665))), (0, .int x0), (1, .int x1), (3, .int (nI k))]) hx hb dX0_checkWith_30 rfl hl (by decide) rfl (fun ls hl => ?_)
        have ed : mb_dbl x = ((x * 2) ^^^ (69665)) := by unfold mb_dbl; rw [if_neg c2]
        refine lv_iinc (v := nI (k + 1)) (lv' := [(3, .int (nI (k + 1))), (2, .int ((x * 2) ^^^ (69665))), (0, .int x0), (1, .int x1)]) hx hb dX0_checkWith_31 hl (k := 3) rfl (by rw [← nI_1]; rfl) (by decide) rfl (fun ls hl => ?_)
        refine lv_goto (tgt := 10) hx hb dX0_checkWith_34 (by decide) ?_
        refine ih (k + 1) _ (by omega) ?_ ls (lv_sub hl [2, 3, 1, 0] rfl)
        rw [← ed]
        exact kk
set_option maxHeartbeats 4000000 in
set_option maxRecDepth 100000 in
/-- checkWith: one byte more of the check -/
theorem c_checkWith (l : Launch) (dC : Nat → ClassId) (dI : Nat → Nat → Nat) (sz : Nat) (a b : Int32)  : Met l yX0_checkWith wsX0_checkWith ({ frames := 0, cells := 0, slots := 0, locals := 0 }) (va_Pc [.int a, .int b] (fun U => U.heap.size = sz ∧ va_P (dC, dI) vwCl [] U.heap ∧ va_K (dC, dI) vwCl [] U ∧ va_D (fun _ => True) [])) (va_Qi (fun (r : Int32) (u2 : Unit) => mb_cw a b = r) (at_W dC dI (va_A [] sz) [] (fun _ => [])) (va_A [] sz)) 0 0 (va_A [] sz) := by
  refine Met.ofW (cc := cX0_checkWith) (maxL := 4) (ret := (some .int)) (by decide) rfl ?_
  intro p e s m args below meth c s₁ B hml hv
  obtain ⟨rfl, hsz, hP, hK, hD0⟩ := hv
  have hx := B.exec
  have hb := B.bytes
  have hr := B.returns
  have hts := atoms_spec (ws := wsX0_checkWith) B.pre
  have hown : s.vm.findClass RX0 = some m.cls := findClass_of_methodNamed B.named
  have hlocks := B.notSynchronized
  subst hsz
  have hD := hD0.self (sz := s.heap.size)
  generalize hAe : va_A [] s.heap.size = A at hD ⊢
  have hA : ∀ q : Nat, s.heap.size ≤ q → A q := fun q h => by rw [← hAe]; exact Or.inr h
  have hS : va_S A s.heap s.heap [] := va_S.rf
  have hP : va_P (dC, dI) vwCl [] s.heap := hP
  have hl := lv_entry ([.int a, .int b]) (n := 4) (Nat.le_of_ble_eq_true rfl)
  rw [lg_entry_eq]
  generalize (lg_sl ([.int a, .int b]) ++ List.replicate (4 - (lg_sl ([.int a, .int b])).length) Slot.unset).toArray = ls at hl ⊢
  have hl : lv_has ls 4 [(0, .int a), (1, .int b)] := hl
  refine lv_iload_n hx hb dX0_checkWith_0 rfl (lv_at hl 0 rfl) ?_
  refine lv_iload_n hx hb dX0_checkWith_1 rfl (lv_at hl 1 rfl) ?_
  refine lv_sipush (v := 256) hx hb dX0_checkWith_2 (by decide) ?_
  refine lv_imul hx hb dX0_checkWith_5 ?_
  refine lv_ixor hx hb dX0_checkWith_6 ?_
  refine lv_istore_n (lv' := [(2, .int (a ^^^ (b * 256))), (0, .int a), (1, .int b)]) hx hb dX0_checkWith_7 rfl hl (by decide) rfl (fun ls hl => ?_)
  refine lv_iconst (v := 0) hx hb dX0_checkWith_8 (by decide) ?_
  refine lv_istore_n (lv' := [(3, .int 0), (2, .int (a ^^^ (b * 256))), (0, .int a), (1, .int b)]) hx hb dX0_checkWith_9 rfl hl (by decide) rfl (fun ls hl => ?_)
  refine lp_checkWith hx hb hown hts a b 8 0 _ (by omega) ?_ ls (lv_sub hl [2, 3, 1, 0] rfl)
  intro ls hl
  refine lv_iload_n hx hb dX0_checkWith_37 rfl (lv_at hl 2 rfl) ?_
  have hP9 := hP.sub (ws' := []) [] rfl
  have hD9 := hD.sub (ws' := []) [] (by decide) rfl
  exact W.iret (v := (mb_it 8 (a ^^^ (b * 256)))) hx hb hr (fun t ht hW => ⟨⟨(mb_it 8 (a ^^^ (b * 256))), (), rfl, rfl, by rw [ht]; exact hP9, va_K.moved hW.alike hK, hD9⟩, hS.F ht⟩) hS.2.2 dX0_checkWith_38
set_option maxHeartbeats 4000000 in
set_option maxRecDepth 100000 in
theorem lp_checkOf {p : Program} {l : Launch} {e : Env} {R : Room} {s : State} {m : MethodId} {args : Array Value} {below : List Frame} {meth : Method} {c : Code} {cells slots : Nat} {Q : State → Prop} {A : Nat → Prop} {H0 : Heap} (hx : p.tables.exec = Jvm.exec) (hb : c.code = cX0_checkOf) (hml : c.maxLocals = 5) (hown : s.vm.findClass RX0 = some m.cls) (hts : ∀ w ∈ wsX0_checkOf, w.before args s = true) (hA : ∀ q : Nat, H0.size ≤ q → A q) (dC : Nat → ClassId) (dI : Nat → Nat → Nat) (h1 : Nat) (cA : ClassId) (n1 : Nat) (f : Nat → Int32) (a n : Nat) (hn : a + n ≤ n1) (hn1 : n1 < 2 ^ 31) (hR : 1 ≤ R.frames ∧ 23 ≤ R.locals) (hR2 : cells ≤ R.cells ∧ slots ≤ R.slots) (hK : va_K (dC, dI) vwCl [(cA, .int)] s) :
    ∀ (j k : Nat), k + j = n → ∀ (H : Heap) (locs : List Loc), va_P (dC, dI) vwCl [(h1, .inl (cA, n1, .inl f))] H → va_D A [(h1, .inl (cA, n1, .inl f))] → va_S A H0 H locs → (∀ (H : Heap) (locs : List Loc), va_P (dC, dI) vwCl [(h1, .inl (cA, n1, .inl f))] H → va_S A H0 H locs → ∀ ls : Array Slot, lv_has ls 5 [(0, .ref h1), (1, .int (nI a)), (2, .int (nI n)), (3, .int (mb_ck f a n)), (4, .int (nI n))] → W p l e R s m args below meth c H locs cells slots Q (F0 m 29 ls [])) → ∀ ls : Array Slot, lv_has ls 5 [(0, .ref h1), (1, .int (nI a)), (2, .int (nI n)), (3, .int (mb_ck f a k)), (4, .int (nI k))] → W p l e R s m args below meth c H locs cells slots Q (F0 m 6 ls []) := by
  intro j
  induction j with
  | zero =>
    intro k hk H locs hP hD hS kk ls hl
    obtain rfl : k = n := by omega
    refine lv_iload hx hb dX0_checkOf_6 (lv_at hl 4 rfl) ?_
    refine lv_iload_n hx hb dX0_checkOf_8 rfl (lv_at hl 2 rfl) ?_
    refine lv_icmp_ge (tgt := 29) hx hb dX0_checkOf_9 (by decide) (fun c1 => ?_) (fun c1 => ?_)
    · exact kk H locs hP hS ls hl
    · exact absurd (nI_le (Nat.le_refl _) (by omega)) c1
  | succ j ih =>
    intro k hk H locs hP hD hS kk ls hl
    refine lv_iload hx hb dX0_checkOf_6 (lv_at hl 4 rfl) ?_
    refine lv_iload_n hx hb dX0_checkOf_8 rfl (lv_at hl 2 rfl) ?_
    refine lv_icmp_ge (tgt := 29) hx hb dX0_checkOf_9 (by decide) (fun c1 => ?_) (fun c1 => ?_)
    · exact absurd c1 (nI_ge (by omega) (by omega))
    · refine lv_iload_n hx hb dX0_checkOf_12 rfl (lv_at hl 3 rfl) ?_
      refine lv_aload_n hx hb dX0_checkOf_13 rfl (lv_at hl 0 rfl) ?_
      refine lv_iload_n hx hb dX0_checkOf_14 rfl (lv_at hl 1 rfl) ?_
      refine lv_iload hx hb dX0_checkOf_15 (lv_at hl 4 rfl) ?_
      refine lv_iadd hx hb dX0_checkOf_17 ?_
      have hi : nI a + nI k = nI (a + k) := nI_add a k
      refine va_iald hx hb hK hP 0 0 rfl rfl (by rw [hi]; exact vp_in_nI (by omega) (by omega)) dX0_checkOf_18 ?_
      have hc : f (nI a + nI k).toNatClampNeg = f (a + k) := by rw [hi, nI_clamp (by omega)]
      have hPc := hP.sub (ws' := []) [] rfl
      have hDc := hD.sub (ws' := []) [] (by decide) rfl
      have hKc := hK.sub (tys' := []) [] rfl
      have hFc := va_free (wc := []) hD hS hA [] rfl
      refine va_calli (va_runS (As := [.int (mb_ck f a k), .int (f (((nI a) + (nI k))).toNatClampNeg)]) (rest := []) ⟨hx, hb, hml, hown, hts⟩ (c_checkWith l dC dI H.size (mb_ck f a k) (f (nI a + nI k).toNatClampNeg)) (va_cwS 2 hts gX0_checkOf_X0_checkWith rfl rfl rfl (by decide +kernel) ⟨hR.1, hR.2⟩) ⟨fun a U g mk q => by obtain ⟨q0, q1, qP, qK, qD⟩ := q; exact ⟨q0, q1, qP, va_K.moved (u := U) (U := U.calling g mk a) (Vm.Alike.refl U.vm) qK, qD⟩, fun U hU hW => ⟨rfl, by rw [hU], by rw [hU]; exact hPc, va_K.moved hW.alike hKc, hDc.weaken (fun _ _ _ _ => trivial)⟩⟩ rfl rfl hl.1 rfl (lv_room (Nat.le_of_ble_eq_true rfl)) dX0_checkOf_19 ⟨hR2.1, hR2.2⟩) hS (fun q _ h => hFc q h) hFc (fun r1 u1 t H1 locs ht hvm hw_u1 hB hz1 hk1 hS => ?_)
      obtain ⟨hP1, hK1, hD1⟩ := hB
      rw [ht] at hP1
      obtain ⟨hP, hD⟩ := va_join (wr := [(h1, .inl (cA, n1, .inl f))]) (w1 := []) hP hD [] [0] rfl rfl (by decide) (by decide) hk1 hFc hP1 hD1
      clear hPc hDc hFc hk1 hP1 hD1 ht
      generalize H1 = H at hP hS ⊢
      have hP : va_P (dC, dI) vwCl [(h1, .inl (cA, n1, .inl f))] H := hP
      have hD : va_D A [(h1, .inl (cA, n1, .inl f))] := hD
      rw [hc] at hw_u1
      have er : mb_ck f a (k + 1) = r1 := hw_u1
      refine lv_istore_n (lv' := [(3, .int r1), (0, .ref h1), (1, .int (nI a)), (2, .int (nI n)), (4, .int (nI k))]) hx hb dX0_checkOf_22 rfl hl (by decide) rfl (fun ls hl => ?_)
      refine lv_iinc (v := nI (k + 1)) (lv' := [(4, .int (nI (k + 1))), (3, .int r1), (0, .ref h1), (1, .int (nI a)), (2, .int (nI n))]) hx hb dX0_checkOf_23 hl (k := 4) rfl (by rw [← nI_1]; rfl) (by decide) rfl (fun ls hl => ?_)
      refine lv_goto (tgt := 6) hx hb dX0_checkOf_26 (by decide) ?_
      have hl2 := lv_sub hl [2, 3, 4, 1, 0] rfl
      rw [← er] at hl2
      exact ih (k + 1) (by omega) _ _ hP hD hS kk ls hl2
set_option maxHeartbeats 4000000 in
set_option maxRecDepth 100000 in
/-- checkOf: the check of n cells from a on -/
theorem c_checkOf (l : Launch) (dC : Nat → ClassId) (dI : Nat → Nat → Nat) (sz : Nat) (h1 : Nat) (cA : ClassId) (n1 : Nat) (f : Nat → Int32) (a n : Nat) (hn : a + n ≤ n1) (hn1 : n1 < 2 ^ 31) : Met l yX0_checkOf wsX0_checkOf ({ frames := 1, cells := 0, slots := 0, locals := 23 }) (va_Pc [.ref h1, .int (nI a), .int (nI n)] (fun U => U.heap.size = sz ∧ va_P (dC, dI) vwCl [(h1, .inl (cA, n1, .inl f))] U.heap ∧ va_K (dC, dI) vwCl [(cA, .int)] U ∧ va_D (fun _ => True) [(h1, .inl (cA, n1, .inl f))])) (va_Qi (fun (r : Int32) (u2 : Unit) => mb_ck f a n = r) (at_W dC dI (va_A [(h1, .inl (cA, n1, .inl f))] sz) [(cA, .int)] (fun _ => [(h1, .inl (cA, n1, .inl f))])) (va_A [(h1, .inl (cA, n1, .inl f))] sz)) 0 0 (va_A [(h1, .inl (cA, n1, .inl f))] sz) := by
  refine Met.ofW (cc := cX0_checkOf) (maxL := 5) (ret := (some .int)) (by decide) rfl ?_
  intro p e s m args below meth c s₁ B hml hv
  obtain ⟨rfl, hsz, hP, hK, hD0⟩ := hv
  have hx := B.exec
  have hb := B.bytes
  have hr := B.returns
  have hts := atoms_spec (ws := wsX0_checkOf) B.pre
  have hown : s.vm.findClass RX0 = some m.cls := findClass_of_methodNamed B.named
  have hlocks := B.notSynchronized
  subst hsz
  have hD := hD0.self (sz := s.heap.size)
  generalize hAe : va_A [(h1, .inl (cA, n1, .inl f))] s.heap.size = A at hD ⊢
  have hA : ∀ q : Nat, s.heap.size ≤ q → A q := fun q h => by rw [← hAe]; exact Or.inr h
  have hS : va_S A s.heap s.heap [] := va_S.rf
  have hP : va_P (dC, dI) vwCl [(h1, .inl (cA, n1, .inl f))] s.heap := hP
  have hl := lv_entry ([.ref h1, .int (nI a), .int (nI n)]) (n := 5) (Nat.le_of_ble_eq_true rfl)
  rw [lg_entry_eq]
  generalize (lg_sl ([.ref h1, .int (nI a), .int (nI n)]) ++ List.replicate (5 - (lg_sl ([.ref h1, .int (nI a), .int (nI n)])).length) Slot.unset).toArray = ls at hl ⊢
  have hl : lv_has ls 5 [(0, .ref h1), (1, .int (nI a)), (2, .int (nI n))] := hl
  refine lv_ldc (v := (65535)) hx hb hown (hts (.constant RX0 42 (65535)) (by decide +kernel)) dX0_checkOf_0 ?_
  refine lv_istore_n (lv' := [(3, .int (65535)), (0, .ref h1), (1, .int (nI a)), (2, .int (nI n))]) hx hb dX0_checkOf_2 rfl hl (by decide) rfl (fun ls hl => ?_)
  refine lv_iconst (v := 0) hx hb dX0_checkOf_3 (by decide) ?_
  refine lv_istore (lv' := [(4, .int 0), (3, .int (65535)), (0, .ref h1), (1, .int (nI a)), (2, .int (nI n))]) hx hb dX0_checkOf_4 hl (by decide) rfl (fun ls hl => ?_)
  refine lp_checkOf hx hb hml hown hts hA dC dI h1 cA n1 f a n hn hn1 ⟨Nat.le_of_ble_eq_true rfl, Nat.le_of_ble_eq_true rfl⟩ ⟨Nat.le_of_ble_eq_true rfl, Nat.le_of_ble_eq_true rfl⟩ hK n 0 (by omega) _ _ hP hD hS ?_ ls (lv_sub hl [2, 3, 4, 1, 0] rfl)
  intro H locs hP hS ls hl
  refine lv_iload_n hx hb dX0_checkOf_29 rfl (lv_at hl 3 rfl) ?_
  have hP9 := hP.sub (ws' := [(h1, .inl (cA, n1, .inl f))]) [0] rfl
  have hD9 := hD.sub (ws' := [(h1, .inl (cA, n1, .inl f))]) [0] (by decide) rfl
  exact W.iret (v := (mb_ck f a n)) hx hb hr (fun t ht hW => ⟨⟨(mb_ck f a n), (), rfl, rfl, by rw [ht]; exact hP9, va_K.moved hW.alike hK, hD9⟩, hS.F ht⟩) hS.2.2 dX0_checkOf_30
