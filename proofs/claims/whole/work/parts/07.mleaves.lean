abbrev bw_X1 (g0 g1 g2 : Nat) (cC cD : ClassId) (u : Bk_) : va_W := [(g0, .inr (1, [.int 0, .ref g1, .ref g2, .int u.2.2])), (g1, .inl (cC, 4096, .inl (fun jx => mb_sg (u.1 jx)))), (g2, .inl (cD, 512, .inl (fun jx => mb_sg (u.2.1 jx))))]
set_option maxHeartbeats 4000000 in
set_option maxRecDepth 100000 in
/-- in: its answer alone -/
theorem c_in (l : Launch) (dC : Nat → ClassId) (dI : Nat → Nat → Nat) (sz : Nat) (a b k : Int32) (hk : 0 ≤ k.toInt) : Met l yX1_in wsX1_in ({ frames := 0, cells := 0, slots := 0, locals := 0 }) (va_Pc [.int a, .int b, .int k] (fun U => U.heap.size = sz ∧ va_P (dC, dI) vwCl [] U.heap ∧ va_K (dC, dI) vwCl [] U ∧ va_D (fun _ => True) [])) (va_Qi (fun (r : Int32) (u2 : Unit) => mb_part a b k = r) (at_W dC dI (va_A [] sz) [] (fun _ => [])) (va_A [] sz)) 0 0 (va_A [] sz) := by
  refine Met.ofW (cc := cX1_in) (maxL := 3) (ret := (some .boolean)) (by decide) rfl ?_
  intro p e s m args below meth c s₁ B hml hv
  obtain ⟨rfl, hsz, hP, hK, hD0⟩ := hv
  have hx := B.exec
  have hb := B.bytes
  have hr := B.returns
  have hts := atoms_spec (ws := wsX1_in) B.pre
  have hown : s.vm.findClass RX1 = some m.cls := findClass_of_methodNamed B.named
  have hlocks := B.notSynchronized
  subst hsz
  have hD := hD0.self (sz := s.heap.size)
  generalize hAe : va_A [] s.heap.size = A at hD ⊢
  have hA : ∀ q : Nat, s.heap.size ≤ q → A q := fun q h => by rw [← hAe]; exact Or.inr h
  have hS : va_S A s.heap s.heap [] := va_S.rf
  have hP : va_P (dC, dI) vwCl [] s.heap := hP
  have hl := lv_entry ([.int a, .int b, .int k]) (n := 3) (Nat.le_of_ble_eq_true rfl)
  rw [lg_entry_eq]
  generalize (lg_sl ([.int a, .int b, .int k]) ++ List.replicate (3 - (lg_sl ([.int a, .int b, .int k])).length) Slot.unset).toArray = ls at hl ⊢
  have hl : lv_has ls 3 [(0, .int a), (1, .int b), (2, .int k)] := hl
  refine lv_iload_n hx hb dX1_in_0 rfl (lv_at hl 0 rfl) ?_
  refine lv_if_lt (tgt := 23) hx hb dX1_in_1 (by decide) (fun c1 => ?_) (fun c1 => ?_)
  · refine lv_iconst (v := 0) hx hb dX1_in_23 (by decide) ?_
    have hP9 := hP.sub (ws' := []) [] rfl
    have hD9 := hD.sub (ws' := []) [] (by decide) rfl
    exact W.zret (v := 0) hx hb hr (by decide) (fun t ht hW => ⟨⟨0, (), rfl, by unfold mb_part; rw [if_pos c1], by rw [ht]; exact hP9, va_K.moved hW.alike hK, hD9⟩, hS.F ht⟩) hS.2.2 dX1_in_24
  · refine lv_iload_n hx hb dX1_in_4 rfl (lv_at hl 1 rfl) ?_
    refine lv_if_lt (tgt := 23) hx hb dX1_in_5 (by decide) (fun c2 => ?_) (fun c2 => ?_)
    · refine lv_iconst (v := 0) hx hb dX1_in_23 (by decide) ?_
      have hP9 := hP.sub (ws' := []) [] rfl
      have hD9 := hD.sub (ws' := []) [] (by decide) rfl
      exact W.zret (v := 0) hx hb hr (by decide) (fun t ht hW => ⟨⟨0, (), rfl, by unfold mb_part; rw [if_neg c1, if_pos c2], by rw [ht]; exact hP9, va_K.moved hW.alike hK, hD9⟩, hS.F ht⟩) hS.2.2 dX1_in_24
    · refine lv_iload_n hx hb dX1_in_8 rfl (lv_at hl 0 rfl) ?_
      refine lv_i2l (v := a.toInt64) hx hb dX1_in_9 rfl ?_
      refine lv_iload_n hx hb dX1_in_10 rfl (lv_at hl 1 rfl) ?_
      refine lv_i2l (v := b.toInt64) hx hb dX1_in_11 rfl ?_
      refine lv_ladd hx hb dX1_in_12 ?_
      refine lv_iload_n hx hb dX1_in_13 rfl (lv_at hl 2 rfl) ?_
      refine lv_i2l (v := k.toInt64) hx hb dX1_in_14 rfl ?_
      refine W.lcmp hx hb dX1_in_15 ?_
      have ha0 : 0 ≤ a.toInt := by rw [mb_lt, mb_0] at c1; omega
      have hb0 : 0 ≤ b.toInt := by rw [mb_lt, mb_0] at c2; omega
      refine lv_if_gt (tgt := 23) hx hb dX1_in_16 (by decide) (fun c3 => ?_) (fun c3 => ?_)
      · have c4 := (mb_long ha0 hb0 hk).mp ((lg_cmp_gt _ _).mp c3)
        refine lv_iconst (v := 0) hx hb dX1_in_23 (by decide) ?_
        have hP9 := hP.sub (ws' := []) [] rfl
        have hD9 := hD.sub (ws' := []) [] (by decide) rfl
        exact W.zret (v := 0) hx hb hr (by decide) (fun t ht hW => ⟨⟨0, (), rfl, by unfold mb_part; rw [if_neg c1, if_neg c2, if_pos c4], by rw [ht]; exact hP9, va_K.moved hW.alike hK, hD9⟩, hS.F ht⟩) hS.2.2 dX1_in_24
      · have c4 : ¬ k - a < b := fun q => c3 ((lg_cmp_gt _ _).mpr ((mb_long ha0 hb0 hk).mpr q))
        refine lv_iconst (v := 1) hx hb dX1_in_19 (by decide) ?_
        refine lv_goto (tgt := 24) hx hb dX1_in_20 (by decide) ?_
        have hP9 := hP.sub (ws' := []) [] rfl
        have hD9 := hD.sub (ws' := []) [] (by decide) rfl
        exact W.zret (v := 1) hx hb hr (by decide) (fun t ht hW => ⟨⟨1, (), rfl, by unfold mb_part; rw [if_neg c1, if_neg c2, if_neg c4], by rw [ht]; exact hP9, va_K.moved hW.alike hK, hD9⟩, hS.F ht⟩) hS.2.2 dX1_in_24
set_option maxHeartbeats 1000000 in
set_option maxRecDepth 100000 in
theorem lp_mcheckOf {p : Program} {l : Launch} {e : Env} {R : Room} {s : State} {m : MethodId} {args : Array Value} {below : List Frame} {meth : Method} {c : Code} {cells slots : Nat} {Q : State → Prop} {H : Heap} {locs : List Loc} (hx : p.tables.exec = Jvm.exec) (hb : c.code = cX1_checkOf) (hown : s.vm.findClass RX1 = some m.cls) (hts : ∀ w ∈ wsX1_checkOf, w.before args s = true) (dC : Nat → ClassId) (dI : Nat → Nat → Nat) (g1 : Nat) (cC : ClassId) (n1 : Nat) (f : Nat → Int32) (hf : ∀ j, mb_B (f j)) (a n : Nat) (hn : a + n ≤ n1) (hn1 : n1 ≤ 4096) (hK : va_K (dC, dI) vwCl [(cC, .byte)] s) (hP : va_P (dC, dI) vwCl [(g1, .inl (cC, n1, .inl (fun jx => mb_sg (f jx))))] H) :
    ∀ (j k : Nat), k + j = 8 * n → (∀ ls : Array Slot, lv_has ls 7 [(0, .ref g1), (1, .int (nI a)), (2, .int (nI n)), (3, .int (nI (mb_mk f a (8 * n)))), (4, .int (nI (8 * n)))] → W p l e R s m args below meth c H locs cells slots Q (F0 m 75 ls [])) → ∀ ls : Array Slot, lv_has ls 7 [(0, .ref g1), (1, .int (nI a)), (2, .int (nI n)), (3, .int (nI (mb_mk f a (k)))), (4, .int (nI (k)))] → W p l e R s m args below meth c H locs cells slots Q (F0 m 6 ls []) := by
  intro j
  induction j with
  | zero =>
    intro k hk kk ls hl
    obtain rfl : k = 8 * n := by omega
    refine lv_iload hx hb dX1_checkOf_6 (lv_at hl 4 rfl) ?_
    refine lv_bipush (v := 8) hx hb dX1_checkOf_8 (by decide) ?_
    refine lv_iload_n hx hb dX1_checkOf_10 rfl (lv_at hl 2 rfl) ?_
    refine lv_imul hx hb dX1_checkOf_11 ?_
    refine lv_topi (fun yv eyv => ?_)
    obtain rfl : yv = nI (8 * n) := eyv.trans (pk_mul 8 n)
    refine lv_icmp_ge (tgt := 75) hx hb dX1_checkOf_12 (by decide) (fun c1 => ?_) (fun c1 => ?_)
    · exact kk ls hl
    · exact absurd (nI_le (Nat.le_refl _) (by omega)) c1
  | succ j ih =>
    intro k hk kk ls hl
    have hw := mb_mk_lt f a k
    obtain ⟨b0, hb0, eb⟩ := hf (a + k / 8)
    have hbit : (mb_sg (f (a + k / 8)) >>> (nI (7 - k % 8) &&& 31)) &&& 1 = nI (mb_bit (f (a + k / 8)).toNatClampNeg (k % 8)) := by
      rw [eb, nI_clamp (by omega)]
      exact mb_bitN b0 hb0 (k % 8) (Nat.mod_lt _ (by decide))
    have hb2 := mb_bit2 (f (a + k / 8)).toNatClampNeg (k % 8)
    refine lv_iload hx hb dX1_checkOf_6 (lv_at hl 4 rfl) ?_
    refine lv_bipush (v := 8) hx hb dX1_checkOf_8 (by decide) ?_
    refine lv_iload_n hx hb dX1_checkOf_10 rfl (lv_at hl 2 rfl) ?_
    refine lv_imul hx hb dX1_checkOf_11 ?_
    refine lv_topi (fun yv eyv => ?_)
    obtain rfl : yv = nI (8 * n) := eyv.trans (pk_mul 8 n)
    refine lv_icmp_ge (tgt := 75) hx hb dX1_checkOf_12 (by decide) (fun c1 => ?_) (fun c1 => ?_)
    · exact absurd c1 (nI_ge (by omega) (by omega))
    · refine lv_aload_n hx hb dX1_checkOf_15 rfl (lv_at hl 0 rfl) ?_
      refine lv_iload_n hx hb dX1_checkOf_16 rfl (lv_at hl 1 rfl) ?_
      refine lv_iload hx hb dX1_checkOf_17 (lv_at hl 4 rfl) ?_
      refine lv_bipush (v := 8) hx hb dX1_checkOf_19 (by decide) ?_
      refine lv_idiv hx hb dX1_checkOf_21 (by decide) ?_
      refine lv_topi (fun yv eyv => ?_)
      obtain rfl : yv = nI (k / 8) := eyv.trans (pk_div (a := k) (d := 8) (by omega) (by decide) (by decide))
      refine lv_iadd hx hb dX1_checkOf_22 ?_
      refine lv_topi (fun yv eyv => ?_)
      obtain rfl : yv = nI (a + k / 8) := eyv.trans (nI_add a (k / 8))
      refine va_bald hx hb hK hP 0 0 rfl rfl (vp_in_nI (by omega) (by omega)) dX1_checkOf_23 ?_
      refine lv_topi (fun yv eyv => ?_)
      obtain rfl : yv = mb_sg (f (a + k / 8)) := eyv.trans (by rw [nI_clamp (by omega)])
      refine lv_bipush (v := 7) hx hb dX1_checkOf_24 (by decide) ?_
      refine lv_iload hx hb dX1_checkOf_26 (lv_at hl 4 rfl) ?_
      refine lv_bipush (v := 8) hx hb dX1_checkOf_28 (by decide) ?_
      refine lv_irem hx hb dX1_checkOf_30 (by decide) ?_
      refine lv_topi (fun yv eyv => ?_)
      obtain rfl : yv = nI (k % 8) := eyv.trans (pk_rem (a := k) (d := 8) (by omega) (by decide) (by decide))
      refine lv_isub hx hb dX1_checkOf_31 ?_
      refine lv_topi (fun yv eyv => ?_)
      obtain rfl : yv = nI (7 - k % 8) := eyv.trans (pk_sub (a := 7) (b := k % 8) (by omega))
      refine lv_ishr hx hb dX1_checkOf_32 ?_
      refine lv_iconst (v := 1) hx hb dX1_checkOf_33 (by decide) ?_
      refine lv_iand hx hb dX1_checkOf_34 ?_
      refine lv_topi (fun yv eyv => ?_)
      obtain rfl : yv = nI (mb_bit (f (a + k / 8)).toNatClampNeg (k % 8)) := eyv.trans (hbit)
      refine lv_istore (lv' := [(5, .int (nI (mb_bit (f (a + k / 8)).toNatClampNeg (k % 8)))), (0, .ref g1), (1, .int (nI a)), (2, .int (nI n)), (3, .int (nI (mb_mk f a k))), (4, .int (nI k))]) hx hb dX1_checkOf_35 hl (by decide) rfl (fun ls hl => ?_)
      refine lv_iload_n hx hb dX1_checkOf_37 rfl (lv_at hl 4 rfl) ?_
      refine lv_bipush (v := 15) hx hb dX1_checkOf_38 (by decide) ?_
      refine lv_ishr hx hb dX1_checkOf_40 ?_
      refine lv_topi (fun yv eyv => ?_)
      obtain rfl : yv = nI (mb_mk f a k / 32768) := eyv.trans (pk_shrN (n := mb_mk f a k) (by omega) _ 15 (by decide))
      refine lv_istore (lv' := [(6, .int (nI (mb_mk f a k / 32768))), (5, .int (nI (mb_bit (f (a + k / 8)).toNatClampNeg (k % 8)))), (0, .ref g1), (1, .int (nI a)), (2, .int (nI n)), (3, .int (nI (mb_mk f a k))), (4, .int (nI k))]) hx hb dX1_checkOf_41 hl (by decide) rfl (fun ls hl => ?_)
      refine lv_iload_n hx hb dX1_checkOf_43 rfl (lv_at hl 5 rfl) ?_
      refine lv_iconst (v := 1) hx hb dX1_checkOf_44 (by decide) ?_
      refine lv_ishl hx hb dX1_checkOf_45 ?_
      refine lv_topi (fun yv eyv => ?_)
      obtain rfl : yv = nI (mb_mk f a k * 2) := eyv.trans (pk_shlN (n := mb_mk f a k) _ 1 (by decide) (by omega))
      refine lv_ldc (v := (65535)) hx hb hown (hts (.constant RX1 20 (65535)) (by decide +kernel)) dX1_checkOf_46 ?_
      refine lv_iand hx hb dX1_checkOf_48 ?_
      refine lv_topi (fun yv eyv => ?_)
      obtain rfl : yv = nI (2 * mb_mk f a k % 65536) := eyv.trans (by rw [Nat.mul_comm 2]; exact pk_andN (n := mb_mk f a k * 2) (by omega) 16 (by decide))
      refine lv_istore_n (lv' := [(3, .int (nI (2 * mb_mk f a k % 65536))), (6, .int (nI (mb_mk f a k / 32768))), (5, .int (nI (mb_bit (f (a + k / 8)).toNatClampNeg (k % 8)))), (0, .ref g1), (1, .int (nI a)), (2, .int (nI n)), (4, .int (nI k))]) hx hb dX1_checkOf_49 rfl hl (by decide) rfl (fun ls hl => ?_)
      refine lv_iload hx hb dX1_checkOf_50 (lv_at hl 1 rfl) ?_
      refine lv_iload hx hb dX1_checkOf_52 (lv_at hl 2 rfl) ?_
      refine lv_ixor hx hb dX1_checkOf_54 ?_
      refine lv_topi (fun yv eyv => ?_)
      obtain rfl : yv = nI ((mb_mk f a k / 32768) ^^^ (mb_bit (f (a + k / 8)).toNatClampNeg (k % 8))) := eyv.trans (mx_xor _ _)
      refine lv_iconst (v := 1) hx hb dX1_checkOf_55 (by decide) ?_
      refine lv_icmp_ne (tgt := 67) hx hb dX1_checkOf_56 (by decide) (fun c2 => ?_) (fun c2 => ?_)
      · have c3 : ¬ (mb_mk f a k / 32768) ^^^ (mb_bit (f (a + k / 8)).toNatClampNeg (k % 8)) = 1 := fun q => c2 (by rw [q]; rfl)
        refine lv_iload_n hx hb dX1_checkOf_67 rfl (lv_at hl 0 rfl) ?_
        refine lv_istore_n (lv' := [(3, .int (nI (2 * mb_mk f a k % 65536))), (6, .int (nI (mb_mk f a k / 32768))), (5, .int (nI (mb_bit (f (a + k / 8)).toNatClampNeg (k % 8)))), (0, .ref g1), (1, .int (nI a)), (2, .int (nI n)), (4, .int (nI k))]) hx hb dX1_checkOf_68 rfl hl (by decide) rfl (fun ls hl => ?_)
        have em : mb_mk f a (k + 1) = 2 * mb_mk f a k % 65536 := by show mb_E _ _ = _; unfold mb_E; rw [if_neg c3]
        refine lv_iinc (v := nI (k + 1)) (lv' := [(4, .int (nI (k + 1))), (3, .int (nI (2 * mb_mk f a k % 65536))), (6, .int (nI (mb_mk f a k / 32768))), (5, .int (nI (mb_bit (f (a + k / 8)).toNatClampNeg (k % 8)))), (0, .ref g1), (1, .int (nI a)), (2, .int (nI n))]) hx hb dX1_checkOf_69 hl (k := 6) rfl (by rw [← nI_1]; rfl) (by decide) rfl (fun ls hl => ?_)
        refine lv_goto (tgt := 6) hx hb dX1_checkOf_72 (by decide) ?_
        have hl2 := lv_sub hl [4, 5, 6, 1, 0] rfl
        rw [← em] at hl2
        exact ih (k + 1) (by omega) kk ls hl2
      · have hlt : (mb_mk f a k / 32768) ^^^ (mb_bit (f (a + k / 8)).toNatClampNeg (k % 8)) < 2 := Nat.xor_lt_two_pow (n := 1) (by omega) hb2
        have c3 : (mb_mk f a k / 32768) ^^^ (mb_bit (f (a + k / 8)).toNatClampNeg (k % 8)) = 1 := (nI_eq (b := 1) (by omega) (by decide)).mp c2
        refine lv_iload_n hx hb dX1_checkOf_59 rfl (lv_at hl 0 rfl) ?_
        refine lv_sipush (v := 4129) hx hb dX1_checkOf_60 (by decide) ?_
        refine lv_ixor hx hb dX1_checkOf_63 ?_
        refine lv_topi (fun yv eyv => ?_)
        obtain rfl : yv = nI ((2 * mb_mk f a k % 65536) ^^^ 4129) := eyv.trans (mx_xor _ 4129)
        refine lv_goto (tgt := 68) hx hb dX1_checkOf_64 (by decide) ?_
        refine lv_istore_n (lv' := [(3, .int (nI ((2 * mb_mk f a k % 65536) ^^^ 4129))), (6, .int (nI (mb_mk f a k / 32768))), (5, .int (nI (mb_bit (f (a + k / 8)).toNatClampNeg (k % 8)))), (0, .ref g1), (1, .int (nI a)), (2, .int (nI n)), (4, .int (nI k))]) hx hb dX1_checkOf_68 rfl hl (by decide) rfl (fun ls hl => ?_)
        have em : mb_mk f a (k + 1) = (2 * mb_mk f a k % 65536) ^^^ 4129 := by show mb_E _ _ = _; unfold mb_E; rw [if_pos c3]
        refine lv_iinc (v := nI (k + 1)) (lv' := [(4, .int (nI (k + 1))), (3, .int (nI ((2 * mb_mk f a k % 65536) ^^^ 4129))), (6, .int (nI (mb_mk f a k / 32768))), (5, .int (nI (mb_bit (f (a + k / 8)).toNatClampNeg (k % 8)))), (0, .ref g1), (1, .int (nI a)), (2, .int (nI n))]) hx hb dX1_checkOf_69 hl (k := 6) rfl (by rw [← nI_1]; rfl) (by decide) rfl (fun ls hl => ?_)
        refine lv_goto (tgt := 6) hx hb dX1_checkOf_72 (by decide) ?_
        have hl2 := lv_sub hl [4, 5, 6, 1, 0] rfl
        rw [← em] at hl2
        exact ih (k + 1) (by omega) kk ls hl2
set_option maxHeartbeats 4000000 in
set_option maxRecDepth 100000 in
/-- checkOf: the check of n cells from a on -/
theorem c_mcheckOf (l : Launch) (dC : Nat → ClassId) (dI : Nat → Nat → Nat) (sz : Nat) (g1 : Nat) (cC : ClassId) (n1 : Nat) (f : Nat → Int32) (a n : Nat) (hf : ∀ j, mb_B (f j)) (hn : a + n ≤ n1) (hn1 : n1 ≤ 4096) : Met l yX1_checkOf wsX1_checkOf ({ frames := 0, cells := 0, slots := 0, locals := 0 }) (va_Pc [.ref g1, .int (nI a), .int (nI n)] (fun U => U.heap.size = sz ∧ va_P (dC, dI) vwCl [(g1, .inl (cC, n1, .inl (fun jx => mb_sg (f jx))))] U.heap ∧ va_K (dC, dI) vwCl [(cC, .byte)] U ∧ va_D (fun _ => True) [(g1, .inl (cC, n1, .inl (fun jx => mb_sg (f jx))))])) (va_Qi (fun (r : Int32) (u2 : Unit) => mb_ck f a n = r) (at_W dC dI (va_A [(g1, .inl (cC, n1, .inl (fun jx => mb_sg (f jx))))] sz) [(cC, .byte)] (fun _ => [(g1, .inl (cC, n1, .inl (fun jx => mb_sg (f jx))))])) (va_A [(g1, .inl (cC, n1, .inl (fun jx => mb_sg (f jx))))] sz)) 0 0 (va_A [(g1, .inl (cC, n1, .inl (fun jx => mb_sg (f jx))))] sz) := by
  refine Met.ofW (cc := cX1_checkOf) (maxL := 7) (ret := (some .int)) (by decide) rfl ?_
  intro p e s m args below meth c s₁ B hml hv
  obtain ⟨rfl, hsz, hP, hK, hD0⟩ := hv
  have hx := B.exec
  have hb := B.bytes
  have hr := B.returns
  have hts := atoms_spec (ws := wsX1_checkOf) B.pre
  have hown : s.vm.findClass RX1 = some m.cls := findClass_of_methodNamed B.named
  have hlocks := B.notSynchronized
  subst hsz
  have hD := hD0.self (sz := s.heap.size)
  generalize hAe : va_A [(g1, .inl (cC, n1, .inl (fun jx => mb_sg (f jx))))] s.heap.size = A at hD ⊢
  have hA : ∀ q : Nat, s.heap.size ≤ q → A q := fun q h => by rw [← hAe]; exact Or.inr h
  have hS : va_S A s.heap s.heap [] := va_S.rf
  have hP : va_P (dC, dI) vwCl [(g1, .inl (cC, n1, .inl (fun jx => mb_sg (f jx))))] s.heap := hP
  have hl := lv_entry ([.ref g1, .int (nI a), .int (nI n)]) (n := 7) (Nat.le_of_ble_eq_true rfl)
  rw [lg_entry_eq]
  generalize (lg_sl ([.ref g1, .int (nI a), .int (nI n)]) ++ List.replicate (7 - (lg_sl ([.ref g1, .int (nI a), .int (nI n)])).length) Slot.unset).toArray = ls at hl ⊢
  have hl : lv_has ls 7 [(0, .ref g1), (1, .int (nI a)), (2, .int (nI n))] := hl
  refine lv_ldc (v := (65535)) hx hb hown (hts (.constant RX1 20 (65535)) (by decide +kernel)) dX1_checkOf_0 ?_
  refine lv_istore_n (lv' := [(3, .int (65535)), (0, .ref g1), (1, .int (nI a)), (2, .int (nI n))]) hx hb dX1_checkOf_2 rfl hl (by decide) rfl (fun ls hl => ?_)
  refine lv_iconst (v := 0) hx hb dX1_checkOf_3 (by decide) ?_
  refine lv_istore (lv' := [(4, .int 0), (3, .int (65535)), (0, .ref g1), (1, .int (nI a)), (2, .int (nI n))]) hx hb dX1_checkOf_4 hl (by decide) rfl (fun ls hl => ?_)
  refine lp_mcheckOf hx hb hown hts dC dI g1 cC n1 f hf a n hn hn1 hK hP (8 * n) 0 (by omega) ?_ ls (lv_sub hl [2, 3, 4, 1, 0] rfl)
  intro ls hl
  refine lv_iload_n hx hb dX1_checkOf_75 rfl (lv_at hl 3 rfl) ?_
  have hP9 := hP.sub (ws' := [(g1, .inl (cC, n1, .inl (fun jx => mb_sg (f jx))))]) [0] rfl
  have hD9 := hD.sub (ws' := [(g1, .inl (cC, n1, .inl (fun jx => mb_sg (f jx))))]) [0] (by decide) rfl
  exact W.iret (v := (nI (mb_mk f a (8 * n)))) hx hb hr (fun t ht hW => ⟨⟨(nI (mb_mk f a (8 * n))), (), rfl, mb_ckN hf a n, by rw [ht]; exact hP9, va_K.moved hW.alike hK, hD9⟩, hS.F ht⟩) hS.2.2 dX1_checkOf_76
