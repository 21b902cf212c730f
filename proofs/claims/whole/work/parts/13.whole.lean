set_option maxHeartbeats 2000000 in
set_option maxRecDepth 100000 in
/-- THE LAW'S LOOP: at its head, with i ints read, both stand alike -/
theorem law_loop {p : Program} {l : Launch} {e : Env} {s : State} {m : MethodId} {below : List Frame} {meth : Method} {c : Code} {dC : Nat → ClassId} {dI : Nat → Nat → Nat} {b L : Nat} {xs : Nat → Int32} (hL : L ≤ 2048) (C0 : lw_At p s m meth c b L xs) {h0 h1 h2 g0 g1 g2 : Nat} {cA cB cC cD : ClassId} (hK : va_K (dC, dI) vwCl [(cA, .int), (cB, .int), (cC, .byte), (cD, .byte)] s) : ∀ (n i : Nat), i ≤ L → L + 1 ≤ i + n → ∀ (u : Bk_) (H : Heap) (locs : List Loc) (ls : Array Slot), mb_inv u → va_P (dC, dI) vwCl [(h0, .inr (0, [.ref h1, .ref h2, .int u.2.2])), (h1, .inl (cA, 4096, .inl u.1)), (h2, .inl (cB, 512, .inl u.2.1)), (g0, .inr (1, [.int 0, .ref g1, .ref g2, .int u.2.2])), (g1, .inl (cC, 4096, .inl (fun jx => mb_sg (u.1 jx)))), (g2, .inl (cD, 512, .inl (fun jx => mb_sg (u.2.1 jx))))] H → va_D (fun q : Nat => s.heap.size ≤ q) [(h0, .inr (0, [.ref h1, .ref h2, .int u.2.2])), (h1, .inl (cA, 4096, .inl u.1)), (h2, .inl (cB, 512, .inl u.2.1)), (g0, .inr (1, [.int 0, .ref g1, .ref g2, .int u.2.2])), (g1, .inl (cC, 4096, .inl (fun jx => mb_sg (u.1 jx)))), (g2, .inl (cD, 512, .inl (fun jx => mb_sg (u.2.1 jx))))] → va_S (fun q : Nat => s.heap.size ≤ q) s.heap H locs → lv_has ls 4 [(0, .ref b), (1, .ref h0), (2, .ref g0), (3, .int (nI i))] → W p l e room_1 s m #[Value.ref b] below meth c H locs 6 9223 (lw_Z below #[Value.ref b] s) (F0 m 18 ls []) := by
  have C1 := C0
  obtain ⟨hx, hb, hr, hml, hown, hts, hX, hbl, hlocks, hgv⟩ := C0
  have hown : s.vm.findClass RL = some m.cls := hown
  have hts : ∀ w ∈ wsL_law, w.before #[Value.ref b] s = true := fun w h => hts w (wsL_law_in w h)
  have hA : ∀ q : Nat, s.heap.size ≤ q → (fun q : Nat => s.heap.size ≤ q) q := fun _ h => h
  have hbA : ¬ (fun q : Nat => s.heap.size ≤ q) b := Nat.not_le.mpr hbl
  intro n
  induction n with
  | zero =>
    intro i h1 h2
    exact absurd h2 (by omega)
  | succ n ih =>
    intro i hiL hin u H locs ls hu hP hD hS hl
    refine lv_iload_n hx hb dL_law_18 rfl (lv_at hl 3 rfl) ?_
    refine lv_aload_n hx hb dL_law_19 rfl (lv_at hl 0 rfl) ?_
    refine va_slen hx hb hX hbl hbA hS dL_law_20 ?_
    refine lv_iconst (v := 4) hx hb dL_law_21 (by decide) ?_
    refine lv_isub hx hb dL_law_22 ?_
    have eL : (nI L - 4).toInt = (L : Int) - 4 := pk_sub_toInt (a := L) (b := 4) (by omega) (by omega)
    have ei : (nI i).toInt = (i : Int) := nI_toInt (by omega)
    refine lv_icmp_gt (tgt := 344) hx hb dL_law_23 (by decide) (fun c1 => ?_) (fun c1 => ?_)
    · refine lv_iconst (v := 1) hx hb dL_law_344 (by decide) ?_
      refine va_forget (fun q hq => hS.2.2 q hq) ?_
      refine W.widen (k := 6) (n := 9223) (Nat.le_refl 6) (Nat.le_refl 9223) ?_
      exact lw_ret hx hb hr hlocks dL_law_345
    · have c1 : ¬ nI L - 4 < nI i := c1
      have hi : i + 4 ≤ L := by rw [mb_lt, eL, ei] at c1; omega
      have hi0 : vp_in (nI i) L := vp_in_nI (by omega) (by omega)
      have kk : ∀ (u : Bk_) (H : Heap) (locs : List Loc) (ls : Array Slot), mb_inv u → va_P (dC, dI) vwCl [(h0, .inr (0, [.ref h1, .ref h2, .int u.2.2])), (h1, .inl (cA, 4096, .inl u.1)), (h2, .inl (cB, 512, .inl u.2.1)), (g0, .inr (1, [.int 0, .ref g1, .ref g2, .int u.2.2])), (g1, .inl (cC, 4096, .inl (fun jx => mb_sg (u.1 jx)))), (g2, .inl (cD, 512, .inl (fun jx => mb_sg (u.2.1 jx))))] H → va_D (fun q : Nat => s.heap.size ≤ q) [(h0, .inr (0, [.ref h1, .ref h2, .int u.2.2])), (h1, .inl (cA, 4096, .inl u.1)), (h2, .inl (cB, 512, .inl u.2.1)), (g0, .inr (1, [.int 0, .ref g1, .ref g2, .int u.2.2])), (g1, .inl (cC, 4096, .inl (fun jx => mb_sg (u.1 jx)))), (g2, .inl (cD, 512, .inl (fun jx => mb_sg (u.2.1 jx))))] → va_S (fun q : Nat => s.heap.size ≤ q) s.heap H locs → lv_has ls 4 [(0, .ref b), (1, .ref h0), (2, .ref g0), (3, .int (nI i))] → W p l e room_1 s m #[Value.ref b] below meth c H locs 6 9223 (lw_Z below #[Value.ref b] s) (F0 m 338 ls []) := by
        intro u H locs ls hu hP hD hS hl
        refine lv_iinc (v := nI (i + 4)) (lv' := [(3, .int (nI (i + 4))), (0, .ref b), (1, .ref h0), (2, .ref g0)]) hx hb dL_law_338 hl (k := 3) rfl (by rw [← nI_add]; rfl) (by decide) rfl (fun ls hl => ?_)
        refine lv_goto (tgt := 18) hx hb dL_law_341 (by decide) ?_
        exact ih (i + 4) (by omega) (by omega) u _ _ ls hu hP hD hS (lv_sub hl [1, 2, 3, 0] rfl)
      refine lv_aload_n hx hb dL_law_26 rfl (lv_at hl 0 rfl) ?_
      refine lv_iload_n hx hb dL_law_27 rfl (lv_at hl 3 rfl) ?_
      refine va_sld hx hb hX hbl hbA hS hi0 dL_law_28 ?_
      refine lv_bipush (v := 15) hx hb dL_law_29 (by decide) ?_
      refine lv_iand hx hb dL_law_31 ?_
      obtain ⟨j, hj, ej⟩ := pk_andE (xs (nI i).toNatClampNeg) (m := 15) 4 (by decide)
      refine lv_topi (fun yv eyv => ?_)
      obtain rfl : yv = nI j := eyv.trans (ej)
      rcases (show j = 0 ∨ j = 1 ∨ j = 2 ∨ j = 3 ∨ j = 4 ∨ j = 5 ∨ j = 6 ∨ j = 7 ∨ j = 8 ∨ j = 9 ∨ 10 ≤ j by omega) with rfl | rfl | rfl | rfl | rfl | rfl | rfl | rfl | rfl | rfl | hj10
      · refine lv_tableIn (tgt := 88) (off := 56) hx hb dL_law_32 (by decide) (by decide) (by decide) (by decide) ?_
        exact lo_put hL C1 hK hi kk hu hP hD hS hl
      · refine lv_tableIn (tgt := 111) (off := 79) hx hb dL_law_32 (by decide) (by decide) (by decide) (by decide) ?_
        exact lo_cut hL C1 hK hi kk hu hP hD hS hl
      · refine lv_tableIn (tgt := 134) (off := 102) hx hb dL_law_32 (by decide) (by decide) (by decide) (by decide) ?_
        exact lo_size hL C1 hK hi kk hu hP hD hS hl
      · refine lv_tableIn (tgt := 147) (off := 115) hx hb dL_law_32 (by decide) (by decide) (by decide) (by decide) ?_
        exact lo_rowAt hL C1 hK hi kk hu hP hD hS hl
      · refine lv_tableIn (tgt := 170) (off := 138) hx hb dL_law_32 (by decide) (by decide) (by decide) (by decide) ?_
        exact lo_load hL C1 hK hi kk hu hP hD hS hl
      · refine lv_tableIn (tgt := 213) (off := 181) hx hb dL_law_32 (by decide) (by decide) (by decide) (by decide) ?_
        exact lo_dump hL C1 hK hi kk hu hP hD hS hl
      · refine lv_tableIn (tgt := 246) (off := 214) hx hb dL_law_32 (by decide) (by decide) (by decide) (by decide) ?_
        exact lo_check hL C1 hK hi kk hu hP hD hS hl
      · refine lv_tableIn (tgt := 279) (off := 247) hx hb dL_law_32 (by decide) (by decide) (by decide) (by decide) ?_
        exact lo_rowCheck hL C1 hK hi kk hu hP hD hS hl
      · refine lv_tableIn (tgt := 302) (off := 270) hx hb dL_law_32 (by decide) (by decide) (by decide) (by decide) ?_
        exact lo_seal hL C1 hK hi kk hu hP hD hS hl
      · refine lv_tableIn (tgt := 315) (off := 283) hx hb dL_law_32 (by decide) (by decide) (by decide) (by decide) ?_
        exact lo_at hL C1 hK hi kk hu hP hD hS hl
      · refine lv_tableOut (tgt := 338) hx hb dL_law_32 (Or.inr (by rw [nI_toInt (by omega)]; omega)) (by decide) ?_
        exact kk u _ _ ls hu hP hD hS hl
set_option maxHeartbeats 2000000 in
set_option maxRecDepth 100000 in
/-- THE LAW, from its entry -/
theorem whole_start {p : Program} {e : Env} {s : State} {m : MethodId} {below : List Frame} {meth : Method} {c : Code} (l : Launch) {b L : Nat} {xs : Nat → Int32} (hL : L ≤ 2048) (C0 : lw_At p s m meth c b L xs) : W p l e room_1 s m #[Value.ref b] below meth c s.heap [] 0 0 (lw_Z below #[Value.ref b] s) (entryFrame m ([Value.ref b] : List Value).toArray 4) := by
  have C1 := C0
  obtain ⟨hx, hb, hr, hml, hown, hts, hX, hbl, hlocks, hgv⟩ := C0
  have hown : s.vm.findClass RL = some m.cls := hown
  have hts : ∀ w ∈ wsL_law, w.before #[Value.ref b] s = true := fun w h => hts w (wsL_law_in w h)
  have hA : ∀ q : Nat, s.heap.size ≤ q → (fun q : Nat => s.heap.size ≤ q) q := fun _ h => h
  have hbA : ¬ (fun q : Nat => s.heap.size ≤ q) b := Nat.not_le.mpr hbl
  obtain ⟨c0, iS0, hKn0⟩ := u_known (C := RX0) (T := TX0) (N := 3) (n := 3) hts inlX0 (hts (.instantiable RX0 3) (by decide +kernel))
  obtain ⟨c1, iS1, hKn1⟩ := u_known (C := RX1) (T := TX1) (N := 4) (n := 4) hts inlX1 (hts (.instantiable RX1 4) (by decide +kernel))
  obtain ⟨dC, dI, hKc⟩ : ∃ (dC : Nat → ClassId) (dI : Nat → Nat → Nat), ∀ (k : Nat) (q : vw_C), vwCl[k]? = some q → u_Kn s q.1 q.2.1 q.2.2 (dC k) (dI k) := by
    refine ⟨fun k => if k = 0 then c0 else c1, fun k => if k = 0 then iS0 else iS1, ?_⟩
    intro k q hq
    match k, hq with
    | 0, hq => cases hq; exact hKn0
    | 1, hq => cases hq; exact hKn1
    | k + 2, hq => simp [vwCl] at hq
  have hS : va_S (fun q : Nat => s.heap.size ≤ q) s.heap s.heap [] := va_S.rf
  have hK : va_K (dC, dI) vwCl [] s := ⟨hKc, fun k q h => by simp at h⟩
  have hP : va_P (dC, dI) vwCl [] s.heap := fun k q h => by simp at h
  have hD : va_D (fun q : Nat => s.heap.size ≤ q) [] := ⟨fun i j p q h => by simp at h, fun k q h => by simp at h⟩
  have hl := lv_entry ([.ref b]) (n := 4) (Nat.le_of_ble_eq_true rfl)
  rw [lg_entry_eq]
  generalize (lg_sl ([.ref b]) ++ List.replicate (4 - (lg_sl ([.ref b])).length) Slot.unset).toArray = ls at hl ⊢
  have hl : lv_has ls 4 [(0, .ref b)] := hl
  refine va_new (ci := 0) (fs := [.null, .null, .int 0]) (C := RX0) (T := TX0) (N := 3) hx hb hts inlX0 tyX0 tyX0_ok hown (hts (.classLink RL 7 RX0) (by decide +kernel)) (hts (.instantiable RX0 3) (by decide +kernel)) (hts (.initialized RX0) (by decide +kernel)) hK hP hD hS hA rfl (fun j hj => by rcases (show j = 0 ∨ j = 1 ∨ j = 2 by omega) with rfl | rfl | rfl <;> rfl) (by decide +kernel) (by decide +kernel) dL_law_0 (fun h0 H hP hD hS => ?_)
  have hP : va_P (dC, dI) vwCl [(h0, .inr (0, [.null, .null, .int 0]))] H := hP
  have hD : va_D (fun q : Nat => s.heap.size ≤ q) [(h0, .inr (0, [.null, .null, .int 0]))] := hD
  refine W.widen (k := 1) (n := 3) (by decide +kernel) (by decide +kernel) ?_
  refine lv_dup hx hb dL_law_3 rfl ?_
  have hPc := hP.sub (ws' := [(h0, .inr (0, [.null, .null, .int 0]))]) [0] rfl
  have hDc := hD.sub (ws' := [(h0, .inr (0, [.null, .null, .int 0]))]) [0] (by decide) rfl
  have hKc := hK.sub (tys' := []) [] rfl
  have hFc := va_free (wc := [(h0, .inr (0, [.null, .null, .int 0]))]) hD hS hA [0] rfl
  refine va_callv (va_runI (As := []) (rest := [.ref h0]) ⟨hx, hb, hml, hown, hts⟩ (c_X0_init l dC dI H.size h0) (cwI 0 hts gL_law_X0_init rfl rfl rfl (hts (.initialized RX0) (by decide +kernel)) (hts (.methodLink RL 9 yX0_init) (by decide +kernel)) (hts (.instanceMethod yX0_init) (by decide +kernel)) rfl (by decide +kernel) ⟨Nat.le_of_ble_eq_true rfl, Nat.le_of_ble_eq_true rfl⟩) ⟨fun a U g mk q => by obtain ⟨q0, q1, qP, qK, qD⟩ := q; exact ⟨q0, q1, qP, va_K.moved (u := U) (U := U.calling g mk a) (Vm.Alike.refl U.vm) qK, qD⟩, fun U hU hW => ⟨rfl, by rw [hU], by rw [hU]; exact hPc, va_K.moved hW.alike hKc, hDc.weaken (fun _ _ _ _ => trivial)⟩⟩ rfl rfl hl.1 rfl (lv_room (Nat.le_of_ble_eq_true rfl)) dL_law_4 ⟨by decide +kernel, by decide +kernel⟩) hS (fun q _ h => hFc q h) hFc (fun u1 t H1 locs ht hvm hw_u1 hB hz1 hk1 hS => ?_)
  obtain ⟨⟨h1, h2⟩, ⟨cA, cB⟩⟩ := u1
  obtain ⟨hP1, hK1, hD1⟩ := hB
  rw [ht] at hP1
  obtain ⟨hP, hD⟩ := va_join (wr := []) (w1 := [(h0, .inr (0, [.ref h1, .ref h2, .int 0])), (h1, .inl (cA, 4096, .inl (fun _ => 0 : Nat → Int32))), (h2, .inl (cB, 512, .inl (fun _ => 0 : Nat → Int32)))]) hP hD [0] [] rfl rfl (by decide) (by decide) hk1 hFc hP1 hD1
  clear hPc hDc hFc hk1 hP1 hD1 ht
  generalize H1 = H at hP hS ⊢
  have hP : va_P (dC, dI) vwCl [(h0, .inr (0, [.ref h1, .ref h2, .int 0])), (h1, .inl (cA, 4096, .inl (fun _ => 0 : Nat → Int32))), (h2, .inl (cB, 512, .inl (fun _ => 0 : Nat → Int32)))] H := hP
  have hD : va_D (fun q : Nat => s.heap.size ≤ q) [(h0, .inr (0, [.ref h1, .ref h2, .int 0])), (h1, .inl (cA, 4096, .inl (fun _ => 0 : Nat → Int32))), (h2, .inl (cB, 512, .inl (fun _ => 0 : Nat → Int32)))] := hD
  have hK1 := va_K.moved hvm.symm hK1
  have hK : va_K (dC, dI) vwCl [(cA, .int), (cB, .int)] s := hK.app hK1
  refine W.widen (k := 3) (n := 4611) (by decide +kernel) (by decide +kernel) ?_
  refine lv_astore_n (lv' := [(1, .ref h0), (0, .ref b)]) hx hb dL_law_7 rfl hl (by decide) rfl (fun ls hl => ?_)
  refine va_new (ci := 1) (fs := [.int 0, .null, .null, .int 0]) (C := RX1) (T := TX1) (N := 4) hx hb hts inlX1 tyX1 tyX1_ok hown (hts (.classLink RL 10 RX1) (by decide +kernel)) (hts (.instantiable RX1 4) (by decide +kernel)) (hts (.initialized RX1) (by decide +kernel)) hK hP hD hS hA rfl (fun j hj => by rcases (show j = 0 ∨ j = 1 ∨ j = 2 ∨ j = 3 by omega) with rfl | rfl | rfl | rfl <;> rfl) (by decide +kernel) (by decide +kernel) dL_law_8 (fun g0 H hP hD hS => ?_)
  have hP : va_P (dC, dI) vwCl [(h0, .inr (0, [.ref h1, .ref h2, .int 0])), (h1, .inl (cA, 4096, .inl (fun _ => 0 : Nat → Int32))), (h2, .inl (cB, 512, .inl (fun _ => 0 : Nat → Int32))), (g0, .inr (1, [.int 0, .null, .null, .int 0]))] H := hP
  have hD : va_D (fun q : Nat => s.heap.size ≤ q) [(h0, .inr (0, [.ref h1, .ref h2, .int 0])), (h1, .inl (cA, 4096, .inl (fun _ => 0 : Nat → Int32))), (h2, .inl (cB, 512, .inl (fun _ => 0 : Nat → Int32))), (g0, .inr (1, [.int 0, .null, .null, .int 0]))] := hD
  refine W.widen (k := 4) (n := 4615) (by decide +kernel) (by decide +kernel) ?_
  refine lv_dup hx hb dL_law_11 rfl ?_
  have hPc := hP.sub (ws' := [(g0, .inr (1, [.int 0, .null, .null, .int 0]))]) [3] rfl
  have hDc := hD.sub (ws' := [(g0, .inr (1, [.int 0, .null, .null, .int 0]))]) [3] (by decide) rfl
  have hKc := hK.sub (tys' := []) [] rfl
  have hFc := va_free (wc := [(g0, .inr (1, [.int 0, .null, .null, .int 0]))]) hD hS hA [3] rfl
  refine va_callv (va_runI (As := []) (rest := [.ref g0]) ⟨hx, hb, hml, hown, hts⟩ (c_X1_init l dC dI H.size g0) (cwI 0 hts gL_law_X1_init rfl rfl rfl (hts (.initialized RX1) (by decide +kernel)) (hts (.methodLink RL 12 yX1_init) (by decide +kernel)) (hts (.instanceMethod yX1_init) (by decide +kernel)) rfl (by decide +kernel) ⟨Nat.le_of_ble_eq_true rfl, Nat.le_of_ble_eq_true rfl⟩) ⟨fun a U g mk q => by obtain ⟨q0, q1, qP, qK, qD⟩ := q; exact ⟨q0, q1, qP, va_K.moved (u := U) (U := U.calling g mk a) (Vm.Alike.refl U.vm) qK, qD⟩, fun U hU hW => ⟨rfl, by rw [hU], by rw [hU]; exact hPc, va_K.moved hW.alike hKc, hDc.weaken (fun _ _ _ _ => trivial)⟩⟩ rfl rfl hl.1 rfl (lv_room (Nat.le_of_ble_eq_true rfl)) dL_law_12 ⟨by decide +kernel, by decide +kernel⟩) hS (fun q _ h => hFc q h) hFc (fun u2 t H1 locs ht hvm hw_u2 hB hz1 hk1 hS => ?_)
  obtain ⟨⟨g1, g2⟩, ⟨cC, cD⟩⟩ := u2
  obtain ⟨hP1, hK1, hD1⟩ := hB
  rw [ht] at hP1
  obtain ⟨hP, hD⟩ := va_join (wr := [(h0, .inr (0, [.ref h1, .ref h2, .int 0])), (h1, .inl (cA, 4096, .inl (fun _ => 0 : Nat → Int32))), (h2, .inl (cB, 512, .inl (fun _ => 0 : Nat → Int32)))]) (w1 := [(g0, .inr (1, [.int 0, .ref g1, .ref g2, .int 0])), (g1, .inl (cC, 4096, .inl (fun jx => mb_sg ((fun _ => 0 : Nat → Int32) jx)))), (g2, .inl (cD, 512, .inl (fun jx => mb_sg ((fun _ => 0 : Nat → Int32) jx))))]) hP hD [3] [0, 1, 2] rfl rfl (by decide) (by decide) hk1 hFc hP1 hD1
  clear hPc hDc hFc hk1 hP1 hD1 ht
  generalize H1 = H at hP hS ⊢
  have hP : va_P (dC, dI) vwCl [(h0, .inr (0, [.ref h1, .ref h2, .int 0])), (h1, .inl (cA, 4096, .inl (fun _ => 0 : Nat → Int32))), (h2, .inl (cB, 512, .inl (fun _ => 0 : Nat → Int32))), (g0, .inr (1, [.int 0, .ref g1, .ref g2, .int 0])), (g1, .inl (cC, 4096, .inl (fun jx => mb_sg ((fun _ => 0 : Nat → Int32) jx)))), (g2, .inl (cD, 512, .inl (fun jx => mb_sg ((fun _ => 0 : Nat → Int32) jx))))] H := hP
  have hD : va_D (fun q : Nat => s.heap.size ≤ q) [(h0, .inr (0, [.ref h1, .ref h2, .int 0])), (h1, .inl (cA, 4096, .inl (fun _ => 0 : Nat → Int32))), (h2, .inl (cB, 512, .inl (fun _ => 0 : Nat → Int32))), (g0, .inr (1, [.int 0, .ref g1, .ref g2, .int 0])), (g1, .inl (cC, 4096, .inl (fun jx => mb_sg ((fun _ => 0 : Nat → Int32) jx)))), (g2, .inl (cD, 512, .inl (fun jx => mb_sg ((fun _ => 0 : Nat → Int32) jx))))] := hD
  have hK1 := va_K.moved hvm.symm hK1
  have hK : va_K (dC, dI) vwCl [(cA, .int), (cB, .int), (cC, .byte), (cD, .byte)] s := hK.app hK1
  refine W.widen (k := 6) (n := 9223) (by decide +kernel) (by decide +kernel) ?_
  refine lv_astore_n (lv' := [(2, .ref g0), (1, .ref h0), (0, .ref b)]) hx hb dL_law_15 rfl hl (by decide) rfl (fun ls hl => ?_)
  refine lv_iconst (v := 0) hx hb dL_law_16 (by decide) ?_
  refine lv_istore_n (lv' := [(3, .int 0), (2, .ref g0), (1, .ref h0), (0, .ref b)]) hx hb dL_law_17 rfl hl (by decide) rfl (fun ls hl => ?_)
  exact law_loop hL C1 hK (L + 1) 0 (Nat.zero_le L) (by omega) ((fun _ => 0 : Nat → Int32), (fun _ => 0 : Nat → Int32), 0) _ _ ls ⟨⟨by decide, by decide⟩, fun _ => mb_B0, fun _ => mb_B0⟩ hP hD hS (lv_sub hl [3, 2, 1, 0] rfl)
