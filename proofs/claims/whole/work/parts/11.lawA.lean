set_option maxHeartbeats 2000000 in
set_option maxRecDepth 100000 in
/-- the law at put: both answer alike, and stand alike behind it -/
theorem lo_put {p : Program} {l : Launch} {e : Env} {s : State} {m : MethodId} {below : List Frame} {meth : Method} {c : Code} {dC : Nat → ClassId} {dI : Nat → Nat → Nat} {b L : Nat} {xs : Nat → Int32} (hL : L ≤ 2048) (C0 : lw_At p s m meth c b L xs) {h0 h1 h2 g0 g1 g2 : Nat} {cA cB cC cD : ClassId} (hK : va_K (dC, dI) vwCl [(cA, .int), (cB, .int), (cC, .byte), (cD, .byte)] s) {i : Nat} (hi : i + 4 ≤ L) (kk : ∀ (u : Bk_) (H : Heap) (locs : List Loc) (ls : Array Slot), mb_inv u → va_P (dC, dI) vwCl [(h0, .inr (0, [.ref h1, .ref h2, .int u.2.2])), (h1, .inl (cA, 4096, .inl u.1)), (h2, .inl (cB, 512, .inl u.2.1)), (g0, .inr (1, [.int 0, .ref g1, .ref g2, .int u.2.2])), (g1, .inl (cC, 4096, .inl (fun jx => mb_sg (u.1 jx)))), (g2, .inl (cD, 512, .inl (fun jx => mb_sg (u.2.1 jx))))] H → va_D (fun q : Nat => s.heap.size ≤ q) [(h0, .inr (0, [.ref h1, .ref h2, .int u.2.2])), (h1, .inl (cA, 4096, .inl u.1)), (h2, .inl (cB, 512, .inl u.2.1)), (g0, .inr (1, [.int 0, .ref g1, .ref g2, .int u.2.2])), (g1, .inl (cC, 4096, .inl (fun jx => mb_sg (u.1 jx)))), (g2, .inl (cD, 512, .inl (fun jx => mb_sg (u.2.1 jx))))] → va_S (fun q : Nat => s.heap.size ≤ q) s.heap H locs → lv_has ls 4 [(0, .ref b), (1, .ref h0), (2, .ref g0), (3, .int (nI i))] → W p l e room_1 s m #[Value.ref b] below meth c H locs 6 9223 (lw_Z below #[Value.ref b] s) (F0 m 338 ls [])) {u : Bk_} (hu : mb_inv u) {H : Heap} {locs : List Loc} (hP : va_P (dC, dI) vwCl [(h0, .inr (0, [.ref h1, .ref h2, .int u.2.2])), (h1, .inl (cA, 4096, .inl u.1)), (h2, .inl (cB, 512, .inl u.2.1)), (g0, .inr (1, [.int 0, .ref g1, .ref g2, .int u.2.2])), (g1, .inl (cC, 4096, .inl (fun jx => mb_sg (u.1 jx)))), (g2, .inl (cD, 512, .inl (fun jx => mb_sg (u.2.1 jx))))] H) (hD : va_D (fun q : Nat => s.heap.size ≤ q) [(h0, .inr (0, [.ref h1, .ref h2, .int u.2.2])), (h1, .inl (cA, 4096, .inl u.1)), (h2, .inl (cB, 512, .inl u.2.1)), (g0, .inr (1, [.int 0, .ref g1, .ref g2, .int u.2.2])), (g1, .inl (cC, 4096, .inl (fun jx => mb_sg (u.1 jx)))), (g2, .inl (cD, 512, .inl (fun jx => mb_sg (u.2.1 jx))))]) (hS : va_S (fun q : Nat => s.heap.size ≤ q) s.heap H locs) {ls : Array Slot} (hl : lv_has ls 4 [(0, .ref b), (1, .ref h0), (2, .ref g0), (3, .int (nI i))]) : W p l e room_1 s m #[Value.ref b] below meth c H locs 6 9223 (lw_Z below #[Value.ref b] s) (F0 m 88 ls []) := by
  obtain ⟨hx, hb, hr, hml, hown, hts, hX, hbl, hlocks, hgv⟩ := C0
  have hown : s.vm.findClass RL = some m.cls := hown
  have hts : ∀ w ∈ wsL_law, w.before #[Value.ref b] s = true := fun w h => hts w (wsL_law_in w h)
  have hA : ∀ q : Nat, s.heap.size ≤ q → (fun q : Nat => s.heap.size ≤ q) q := fun _ h => h
  have hbA : ¬ (fun q : Nat => s.heap.size ≤ q) b := Nat.not_le.mpr hbl
  have hi1 : vp_in (nI i + 1) L := by rw [show nI i + 1 = nI (i + 1) from nI_add i 1]; exact vp_in_nI (by omega) (by omega)
  have hi2 : vp_in (nI i + 2) L := by rw [show nI i + 2 = nI (i + 2) from nI_add i 2]; exact vp_in_nI (by omega) (by omega)
  have hi3 : vp_in (nI i + 3) L := by rw [show nI i + 3 = nI (i + 3) from nI_add i 3]; exact vp_in_nI (by omega) (by omega)
  refine lv_aload_n hx hb dL_law_88 rfl (lv_at hl 1 rfl) ?_
  refine lv_aload_n hx hb dL_law_89 rfl (lv_at hl 0 rfl) ?_
  refine lv_iload_n hx hb dL_law_90 rfl (lv_at hl 3 rfl) ?_
  refine lv_iconst (v := 1) hx hb dL_law_91 (by decide) ?_
  refine lv_iadd hx hb dL_law_92 ?_
  refine va_sld hx hb hX hbl hbA hS hi1 dL_law_93 ?_
  have hPc := hP.sub (ws' := [(h0, .inr (0, [.ref h1, .ref h2, .int u.2.2])), (h1, .inl (cA, 4096, .inl u.1)), (h2, .inl (cB, 512, .inl u.2.1))]) [0, 1, 2] rfl
  have hDc := hD.sub (ws' := [(h0, .inr (0, [.ref h1, .ref h2, .int u.2.2])), (h1, .inl (cA, 4096, .inl u.1)), (h2, .inl (cB, 512, .inl u.2.1))]) [0, 1, 2] (by decide) rfl
  have hKc := hK.sub (tys' := [(cA, .int), (cB, .int)]) [0, 1] rfl
  have hFc := va_free (wc := [(h0, .inr (0, [.ref h1, .ref h2, .int u.2.2])), (h1, .inl (cA, 4096, .inl u.1)), (h2, .inl (cB, 512, .inl u.2.1))]) hD hS hA [0, 1, 2] rfl
  refine va_calli (va_runV (As := [.int (xs ((nI i) + 1).toNatClampNeg)]) (rest := []) ⟨hx, hb, hml, hown, hts⟩ (c_put l dC dI H.size h0 h1 h2 cA cB u (xs (nI i + 1).toNatClampNeg) hu.1) (cwV 1 hts gL_law_X0_put rfl rfl rfl (by decide +kernel) ⟨Nat.le_of_ble_eq_true rfl, Nat.le_of_ble_eq_true rfl⟩) ⟨fun a U g mk q => by obtain ⟨q0, q1, qP, qK, qD⟩ := q; exact ⟨q0, q1, qP, va_K.moved (u := U) (U := U.calling g mk a) (Vm.Alike.refl U.vm) qK, qD⟩, va_recv hKc hPc (ci := 0) (q0 := 0) rfl rfl, fun U hU hW => ⟨rfl, by rw [hU], by rw [hU]; exact hPc, va_K.moved hW.alike hKc, hDc.weaken (fun _ _ _ _ => trivial)⟩⟩ rfl rfl hl.1 rfl (lv_room (Nat.le_of_ble_eq_true rfl)) dL_law_94 ⟨by decide +kernel, by decide +kernel⟩) hS (fun q _ h => hFc q h) hFc (fun r1 u1 t H1 locs ht hvm hw_u1 hB hz1 hk1 hS => ?_)
  obtain ⟨hP1, hK1, hD1⟩ := hB
  rw [ht] at hP1
  obtain ⟨hP, hD⟩ := va_join (wr := [(g0, .inr (1, [.int 0, .ref g1, .ref g2, .int u.2.2])), (g1, .inl (cC, 4096, .inl (fun jx => mb_sg (u.1 jx)))), (g2, .inl (cD, 512, .inl (fun jx => mb_sg (u.2.1 jx))))]) (w1 := [(h0, .inr (0, [.ref h1, .ref h2, .int u1.2.2])), (h1, .inl (cA, 4096, .inl u1.1)), (h2, .inl (cB, 512, .inl u1.2.1))]) hP hD [0, 1, 2] [3, 4, 5] rfl rfl (by decide) (by decide) hk1 hFc hP1 hD1
  clear hPc hDc hFc hk1 hP1 hD1 ht
  generalize H1 = H at hP hS ⊢
  have hP : va_P (dC, dI) vwCl [(g0, .inr (1, [.int 0, .ref g1, .ref g2, .int u.2.2])), (g1, .inl (cC, 4096, .inl (fun jx => mb_sg (u.1 jx)))), (g2, .inl (cD, 512, .inl (fun jx => mb_sg (u.2.1 jx)))), (h0, .inr (0, [.ref h1, .ref h2, .int u1.2.2])), (h1, .inl (cA, 4096, .inl u1.1)), (h2, .inl (cB, 512, .inl u1.2.1))] H := hP
  have hD : va_D (fun q : Nat => s.heap.size ≤ q) [(g0, .inr (1, [.int 0, .ref g1, .ref g2, .int u.2.2])), (g1, .inl (cC, 4096, .inl (fun jx => mb_sg (u.1 jx)))), (g2, .inl (cD, 512, .inl (fun jx => mb_sg (u.2.1 jx)))), (h0, .inr (0, [.ref h1, .ref h2, .int u1.2.2])), (h1, .inl (cA, 4096, .inl u1.1)), (h2, .inl (cB, 512, .inl u1.2.1))] := hD
  refine lv_aload_n hx hb dL_law_97 rfl (lv_at hl 2 rfl) ?_
  refine lv_aload_n hx hb dL_law_98 rfl (lv_at hl 0 rfl) ?_
  refine lv_iload_n hx hb dL_law_99 rfl (lv_at hl 3 rfl) ?_
  refine lv_iconst (v := 1) hx hb dL_law_100 (by decide) ?_
  refine lv_iadd hx hb dL_law_101 ?_
  refine va_sld hx hb hX hbl hbA hS hi1 dL_law_102 ?_
  have hPc := hP.sub (ws' := [(g0, .inr (1, [.int 0, .ref g1, .ref g2, .int u.2.2])), (g1, .inl (cC, 4096, .inl (fun jx => mb_sg (u.1 jx)))), (g2, .inl (cD, 512, .inl (fun jx => mb_sg (u.2.1 jx))))]) [0, 1, 2] rfl
  have hDc := hD.sub (ws' := [(g0, .inr (1, [.int 0, .ref g1, .ref g2, .int u.2.2])), (g1, .inl (cC, 4096, .inl (fun jx => mb_sg (u.1 jx)))), (g2, .inl (cD, 512, .inl (fun jx => mb_sg (u.2.1 jx))))]) [0, 1, 2] (by decide) rfl
  have hKc := hK.sub (tys' := [(cC, .byte), (cD, .byte)]) [2, 3] rfl
  have hFc := va_free (wc := [(g0, .inr (1, [.int 0, .ref g1, .ref g2, .int u.2.2])), (g1, .inl (cC, 4096, .inl (fun jx => mb_sg (u.1 jx)))), (g2, .inl (cD, 512, .inl (fun jx => mb_sg (u.2.1 jx))))]) hD hS hA [0, 1, 2] rfl
  refine va_calli (va_runV (As := [.int (xs ((nI i) + 1).toNatClampNeg)]) (rest := [.int r1]) ⟨hx, hb, hml, hown, hts⟩ (c_mput l dC dI H.size g0 g1 g2 cC cD u (xs (nI i + 1).toNatClampNeg) hu) (cwV 1 hts gL_law_X1_put rfl rfl rfl (by decide +kernel) ⟨Nat.le_of_ble_eq_true rfl, Nat.le_of_ble_eq_true rfl⟩) ⟨fun a U g mk q => by obtain ⟨q0, q1, qP, qK, qD⟩ := q; exact ⟨q0, q1, qP, va_K.moved (u := U) (U := U.calling g mk a) (Vm.Alike.refl U.vm) qK, qD⟩, va_recv hKc hPc (ci := 1) (q0 := 0) rfl rfl, fun U hU hW => ⟨rfl, by rw [hU], by rw [hU]; exact hPc, va_K.moved hW.alike hKc, hDc.weaken (fun _ _ _ _ => trivial)⟩⟩ rfl rfl hl.1 rfl (lv_room (Nat.le_of_ble_eq_true rfl)) dL_law_103 ⟨by decide +kernel, by decide +kernel⟩) hS (fun q _ h => hFc q h) hFc (fun r2 u2 t H1 locs ht hvm hw_u2 hB hz1 hk1 hS => ?_)
  obtain ⟨hP1, hK1, hD1⟩ := hB
  rw [ht] at hP1
  obtain ⟨hP, hD⟩ := va_join (wr := [(h0, .inr (0, [.ref h1, .ref h2, .int u1.2.2])), (h1, .inl (cA, 4096, .inl u1.1)), (h2, .inl (cB, 512, .inl u1.2.1))]) (w1 := [(g0, .inr (1, [.int 0, .ref g1, .ref g2, .int u2.2.2])), (g1, .inl (cC, 4096, .inl (fun jx => mb_sg (u2.1 jx)))), (g2, .inl (cD, 512, .inl (fun jx => mb_sg (u2.2.1 jx))))]) hP hD [0, 1, 2] [3, 4, 5] rfl rfl (by decide) (by decide) hk1 hFc hP1 hD1
  clear hPc hDc hFc hk1 hP1 hD1 ht
  generalize H1 = H at hP hS ⊢
  have hP : va_P (dC, dI) vwCl [(h0, .inr (0, [.ref h1, .ref h2, .int u1.2.2])), (h1, .inl (cA, 4096, .inl u1.1)), (h2, .inl (cB, 512, .inl u1.2.1)), (g0, .inr (1, [.int 0, .ref g1, .ref g2, .int u2.2.2])), (g1, .inl (cC, 4096, .inl (fun jx => mb_sg (u2.1 jx)))), (g2, .inl (cD, 512, .inl (fun jx => mb_sg (u2.2.1 jx))))] H := hP
  have hD : va_D (fun q : Nat => s.heap.size ≤ q) [(h0, .inr (0, [.ref h1, .ref h2, .int u1.2.2])), (h1, .inl (cA, 4096, .inl u1.1)), (h2, .inl (cB, 512, .inl u1.2.1)), (g0, .inr (1, [.int 0, .ref g1, .ref g2, .int u2.2.2])), (g1, .inl (cC, 4096, .inl (fun jx => mb_sg (u2.1 jx)))), (g2, .inl (cD, 512, .inl (fun jx => mb_sg (u2.2.1 jx))))] := hD
  obtain ⟨e1, e2⟩ := Prod.mk.inj (hw_u1.symm.trans hw_u2)
  subst e1
  subst e2
  have hu1 : mb_inv (mb_put u (xs (nI i + 1).toNatClampNeg)).2 := mb_put_inv hu (xs (nI i + 1).toNatClampNeg)
  rw [hw_u1] at hu1
  refine lv_icmp_eq (tgt := 338) hx hb dL_law_106 (by decide) (fun c1 => ?_) (fun c1 => ?_)
  · exact kk u1 _ _ ls hu1 hP hD hS hl
  · exact absurd rfl c1
set_option maxHeartbeats 2000000 in
set_option maxRecDepth 100000 in
/-- the law at cut: both answer alike, and stand alike behind it -/
theorem lo_cut {p : Program} {l : Launch} {e : Env} {s : State} {m : MethodId} {below : List Frame} {meth : Method} {c : Code} {dC : Nat → ClassId} {dI : Nat → Nat → Nat} {b L : Nat} {xs : Nat → Int32} (hL : L ≤ 2048) (C0 : lw_At p s m meth c b L xs) {h0 h1 h2 g0 g1 g2 : Nat} {cA cB cC cD : ClassId} (hK : va_K (dC, dI) vwCl [(cA, .int), (cB, .int), (cC, .byte), (cD, .byte)] s) {i : Nat} (hi : i + 4 ≤ L) (kk : ∀ (u : Bk_) (H : Heap) (locs : List Loc) (ls : Array Slot), mb_inv u → va_P (dC, dI) vwCl [(h0, .inr (0, [.ref h1, .ref h2, .int u.2.2])), (h1, .inl (cA, 4096, .inl u.1)), (h2, .inl (cB, 512, .inl u.2.1)), (g0, .inr (1, [.int 0, .ref g1, .ref g2, .int u.2.2])), (g1, .inl (cC, 4096, .inl (fun jx => mb_sg (u.1 jx)))), (g2, .inl (cD, 512, .inl (fun jx => mb_sg (u.2.1 jx))))] H → va_D (fun q : Nat => s.heap.size ≤ q) [(h0, .inr (0, [.ref h1, .ref h2, .int u.2.2])), (h1, .inl (cA, 4096, .inl u.1)), (h2, .inl (cB, 512, .inl u.2.1)), (g0, .inr (1, [.int 0, .ref g1, .ref g2, .int u.2.2])), (g1, .inl (cC, 4096, .inl (fun jx => mb_sg (u.1 jx)))), (g2, .inl (cD, 512, .inl (fun jx => mb_sg (u.2.1 jx))))] → va_S (fun q : Nat => s.heap.size ≤ q) s.heap H locs → lv_has ls 4 [(0, .ref b), (1, .ref h0), (2, .ref g0), (3, .int (nI i))] → W p l e room_1 s m #[Value.ref b] below meth c H locs 6 9223 (lw_Z below #[Value.ref b] s) (F0 m 338 ls [])) {u : Bk_} (hu : mb_inv u) {H : Heap} {locs : List Loc} (hP : va_P (dC, dI) vwCl [(h0, .inr (0, [.ref h1, .ref h2, .int u.2.2])), (h1, .inl (cA, 4096, .inl u.1)), (h2, .inl (cB, 512, .inl u.2.1)), (g0, .inr (1, [.int 0, .ref g1, .ref g2, .int u.2.2])), (g1, .inl (cC, 4096, .inl (fun jx => mb_sg (u.1 jx)))), (g2, .inl (cD, 512, .inl (fun jx => mb_sg (u.2.1 jx))))] H) (hD : va_D (fun q : Nat => s.heap.size ≤ q) [(h0, .inr (0, [.ref h1, .ref h2, .int u.2.2])), (h1, .inl (cA, 4096, .inl u.1)), (h2, .inl (cB, 512, .inl u.2.1)), (g0, .inr (1, [.int 0, .ref g1, .ref g2, .int u.2.2])), (g1, .inl (cC, 4096, .inl (fun jx => mb_sg (u.1 jx)))), (g2, .inl (cD, 512, .inl (fun jx => mb_sg (u.2.1 jx))))]) (hS : va_S (fun q : Nat => s.heap.size ≤ q) s.heap H locs) {ls : Array Slot} (hl : lv_has ls 4 [(0, .ref b), (1, .ref h0), (2, .ref g0), (3, .int (nI i))]) : W p l e room_1 s m #[Value.ref b] below meth c H locs 6 9223 (lw_Z below #[Value.ref b] s) (F0 m 111 ls []) := by
  obtain ⟨hx, hb, hr, hml, hown, hts, hX, hbl, hlocks, hgv⟩ := C0
  have hown : s.vm.findClass RL = some m.cls := hown
  have hts : ∀ w ∈ wsL_law, w.before #[Value.ref b] s = true := fun w h => hts w (wsL_law_in w h)
  have hA : ∀ q : Nat, s.heap.size ≤ q → (fun q : Nat => s.heap.size ≤ q) q := fun _ h => h
  have hbA : ¬ (fun q : Nat => s.heap.size ≤ q) b := Nat.not_le.mpr hbl
  have hi1 : vp_in (nI i + 1) L := by rw [show nI i + 1 = nI (i + 1) from nI_add i 1]; exact vp_in_nI (by omega) (by omega)
  have hi2 : vp_in (nI i + 2) L := by rw [show nI i + 2 = nI (i + 2) from nI_add i 2]; exact vp_in_nI (by omega) (by omega)
  have hi3 : vp_in (nI i + 3) L := by rw [show nI i + 3 = nI (i + 3) from nI_add i 3]; exact vp_in_nI (by omega) (by omega)
  refine lv_aload_n hx hb dL_law_111 rfl (lv_at hl 1 rfl) ?_
  refine lv_aload_n hx hb dL_law_112 rfl (lv_at hl 0 rfl) ?_
  refine lv_iload_n hx hb dL_law_113 rfl (lv_at hl 3 rfl) ?_
  refine lv_iconst (v := 1) hx hb dL_law_114 (by decide) ?_
  refine lv_iadd hx hb dL_law_115 ?_
  refine va_sld hx hb hX hbl hbA hS hi1 dL_law_116 ?_
  have hPc := hP.sub (ws' := [(h0, .inr (0, [.ref h1, .ref h2, .int u.2.2])), (h1, .inl (cA, 4096, .inl u.1)), (h2, .inl (cB, 512, .inl u.2.1))]) [0, 1, 2] rfl
  have hDc := hD.sub (ws' := [(h0, .inr (0, [.ref h1, .ref h2, .int u.2.2])), (h1, .inl (cA, 4096, .inl u.1)), (h2, .inl (cB, 512, .inl u.2.1))]) [0, 1, 2] (by decide) rfl
  have hKc := hK.sub (tys' := [(cA, .int), (cB, .int)]) [0, 1] rfl
  have hFc := va_free (wc := [(h0, .inr (0, [.ref h1, .ref h2, .int u.2.2])), (h1, .inl (cA, 4096, .inl u.1)), (h2, .inl (cB, 512, .inl u.2.1))]) hD hS hA [0, 1, 2] rfl
  refine va_calli (va_runV (As := [.int (xs ((nI i) + 1).toNatClampNeg)]) (rest := []) ⟨hx, hb, hml, hown, hts⟩ (c_cut l dC dI H.size h0 h1 h2 cA cB u (xs (nI i + 1).toNatClampNeg) hu.1) (cwV 1 hts gL_law_X0_cut rfl rfl rfl (by decide +kernel) ⟨Nat.le_of_ble_eq_true rfl, Nat.le_of_ble_eq_true rfl⟩) ⟨fun a U g mk q => by obtain ⟨q0, q1, qP, qK, qD⟩ := q; exact ⟨q0, q1, qP, va_K.moved (u := U) (U := U.calling g mk a) (Vm.Alike.refl U.vm) qK, qD⟩, va_recv hKc hPc (ci := 0) (q0 := 0) rfl rfl, fun U hU hW => ⟨rfl, by rw [hU], by rw [hU]; exact hPc, va_K.moved hW.alike hKc, hDc.weaken (fun _ _ _ _ => trivial)⟩⟩ rfl rfl hl.1 rfl (lv_room (Nat.le_of_ble_eq_true rfl)) dL_law_117 ⟨by decide +kernel, by decide +kernel⟩) hS (fun q _ h => hFc q h) hFc (fun r1 u1 t H1 locs ht hvm hw_u1 hB hz1 hk1 hS => ?_)
  obtain ⟨hP1, hK1, hD1⟩ := hB
  rw [ht] at hP1
  obtain ⟨hP, hD⟩ := va_join (wr := [(g0, .inr (1, [.int 0, .ref g1, .ref g2, .int u.2.2])), (g1, .inl (cC, 4096, .inl (fun jx => mb_sg (u.1 jx)))), (g2, .inl (cD, 512, .inl (fun jx => mb_sg (u.2.1 jx))))]) (w1 := [(h0, .inr (0, [.ref h1, .ref h2, .int u1.2.2])), (h1, .inl (cA, 4096, .inl u1.1)), (h2, .inl (cB, 512, .inl u1.2.1))]) hP hD [0, 1, 2] [3, 4, 5] rfl rfl (by decide) (by decide) hk1 hFc hP1 hD1
  clear hPc hDc hFc hk1 hP1 hD1 ht
  generalize H1 = H at hP hS ⊢
  have hP : va_P (dC, dI) vwCl [(g0, .inr (1, [.int 0, .ref g1, .ref g2, .int u.2.2])), (g1, .inl (cC, 4096, .inl (fun jx => mb_sg (u.1 jx)))), (g2, .inl (cD, 512, .inl (fun jx => mb_sg (u.2.1 jx)))), (h0, .inr (0, [.ref h1, .ref h2, .int u1.2.2])), (h1, .inl (cA, 4096, .inl u1.1)), (h2, .inl (cB, 512, .inl u1.2.1))] H := hP
  have hD : va_D (fun q : Nat => s.heap.size ≤ q) [(g0, .inr (1, [.int 0, .ref g1, .ref g2, .int u.2.2])), (g1, .inl (cC, 4096, .inl (fun jx => mb_sg (u.1 jx)))), (g2, .inl (cD, 512, .inl (fun jx => mb_sg (u.2.1 jx)))), (h0, .inr (0, [.ref h1, .ref h2, .int u1.2.2])), (h1, .inl (cA, 4096, .inl u1.1)), (h2, .inl (cB, 512, .inl u1.2.1))] := hD
  refine lv_aload_n hx hb dL_law_120 rfl (lv_at hl 2 rfl) ?_
  refine lv_aload_n hx hb dL_law_121 rfl (lv_at hl 0 rfl) ?_
  refine lv_iload_n hx hb dL_law_122 rfl (lv_at hl 3 rfl) ?_
  refine lv_iconst (v := 1) hx hb dL_law_123 (by decide) ?_
  refine lv_iadd hx hb dL_law_124 ?_
  refine va_sld hx hb hX hbl hbA hS hi1 dL_law_125 ?_
  have hPc := hP.sub (ws' := [(g0, .inr (1, [.int 0, .ref g1, .ref g2, .int u.2.2])), (g1, .inl (cC, 4096, .inl (fun jx => mb_sg (u.1 jx)))), (g2, .inl (cD, 512, .inl (fun jx => mb_sg (u.2.1 jx))))]) [0, 1, 2] rfl
  have hDc := hD.sub (ws' := [(g0, .inr (1, [.int 0, .ref g1, .ref g2, .int u.2.2])), (g1, .inl (cC, 4096, .inl (fun jx => mb_sg (u.1 jx)))), (g2, .inl (cD, 512, .inl (fun jx => mb_sg (u.2.1 jx))))]) [0, 1, 2] (by decide) rfl
  have hKc := hK.sub (tys' := [(cC, .byte), (cD, .byte)]) [2, 3] rfl
  have hFc := va_free (wc := [(g0, .inr (1, [.int 0, .ref g1, .ref g2, .int u.2.2])), (g1, .inl (cC, 4096, .inl (fun jx => mb_sg (u.1 jx)))), (g2, .inl (cD, 512, .inl (fun jx => mb_sg (u.2.1 jx))))]) hD hS hA [0, 1, 2] rfl
  refine va_calli (va_runV (As := [.int (xs ((nI i) + 1).toNatClampNeg)]) (rest := [.int r1]) ⟨hx, hb, hml, hown, hts⟩ (c_mcut l dC dI H.size g0 g1 g2 cC cD u (xs (nI i + 1).toNatClampNeg) hu) (cwV 1 hts gL_law_X1_cut rfl rfl rfl (by decide +kernel) ⟨Nat.le_of_ble_eq_true rfl, Nat.le_of_ble_eq_true rfl⟩) ⟨fun a U g mk q => by obtain ⟨q0, q1, qP, qK, qD⟩ := q; exact ⟨q0, q1, qP, va_K.moved (u := U) (U := U.calling g mk a) (Vm.Alike.refl U.vm) qK, qD⟩, va_recv hKc hPc (ci := 1) (q0 := 0) rfl rfl, fun U hU hW => ⟨rfl, by rw [hU], by rw [hU]; exact hPc, va_K.moved hW.alike hKc, hDc.weaken (fun _ _ _ _ => trivial)⟩⟩ rfl rfl hl.1 rfl (lv_room (Nat.le_of_ble_eq_true rfl)) dL_law_126 ⟨by decide +kernel, by decide +kernel⟩) hS (fun q _ h => hFc q h) hFc (fun r2 u2 t H1 locs ht hvm hw_u2 hB hz1 hk1 hS => ?_)
  obtain ⟨hP1, hK1, hD1⟩ := hB
  rw [ht] at hP1
  obtain ⟨hP, hD⟩ := va_join (wr := [(h0, .inr (0, [.ref h1, .ref h2, .int u1.2.2])), (h1, .inl (cA, 4096, .inl u1.1)), (h2, .inl (cB, 512, .inl u1.2.1))]) (w1 := [(g0, .inr (1, [.int 0, .ref g1, .ref g2, .int u2.2.2])), (g1, .inl (cC, 4096, .inl (fun jx => mb_sg (u2.1 jx)))), (g2, .inl (cD, 512, .inl (fun jx => mb_sg (u2.2.1 jx))))]) hP hD [0, 1, 2] [3, 4, 5] rfl rfl (by decide) (by decide) hk1 hFc hP1 hD1
  clear hPc hDc hFc hk1 hP1 hD1 ht
  generalize H1 = H at hP hS ⊢
  have hP : va_P (dC, dI) vwCl [(h0, .inr (0, [.ref h1, .ref h2, .int u1.2.2])), (h1, .inl (cA, 4096, .inl u1.1)), (h2, .inl (cB, 512, .inl u1.2.1)), (g0, .inr (1, [.int 0, .ref g1, .ref g2, .int u2.2.2])), (g1, .inl (cC, 4096, .inl (fun jx => mb_sg (u2.1 jx)))), (g2, .inl (cD, 512, .inl (fun jx => mb_sg (u2.2.1 jx))))] H := hP
  have hD : va_D (fun q : Nat => s.heap.size ≤ q) [(h0, .inr (0, [.ref h1, .ref h2, .int u1.2.2])), (h1, .inl (cA, 4096, .inl u1.1)), (h2, .inl (cB, 512, .inl u1.2.1)), (g0, .inr (1, [.int 0, .ref g1, .ref g2, .int u2.2.2])), (g1, .inl (cC, 4096, .inl (fun jx => mb_sg (u2.1 jx)))), (g2, .inl (cD, 512, .inl (fun jx => mb_sg (u2.2.1 jx))))] := hD
  obtain ⟨e1, e2⟩ := Prod.mk.inj (hw_u1.symm.trans hw_u2)
  subst e1
  subst e2
  have hu1 : mb_inv (mb_cut u (xs (nI i + 1).toNatClampNeg)).2 := mb_cut_inv hu (xs (nI i + 1).toNatClampNeg)
  rw [hw_u1] at hu1
  refine lv_icmp_eq (tgt := 338) hx hb dL_law_129 (by decide) (fun c1 => ?_) (fun c1 => ?_)
  · exact kk u1 _ _ ls hu1 hP hD hS hl
  · exact absurd rfl c1
set_option maxHeartbeats 2000000 in
set_option maxRecDepth 100000 in
/-- the law at size: both answer alike, and stand alike behind it -/
theorem lo_size {p : Program} {l : Launch} {e : Env} {s : State} {m : MethodId} {below : List Frame} {meth : Method} {c : Code} {dC : Nat → ClassId} {dI : Nat → Nat → Nat} {b L : Nat} {xs : Nat → Int32} (hL : L ≤ 2048) (C0 : lw_At p s m meth c b L xs) {h0 h1 h2 g0 g1 g2 : Nat} {cA cB cC cD : ClassId} (hK : va_K (dC, dI) vwCl [(cA, .int), (cB, .int), (cC, .byte), (cD, .byte)] s) {i : Nat} (hi : i + 4 ≤ L) (kk : ∀ (u : Bk_) (H : Heap) (locs : List Loc) (ls : Array Slot), mb_inv u → va_P (dC, dI) vwCl [(h0, .inr (0, [.ref h1, .ref h2, .int u.2.2])), (h1, .inl (cA, 4096, .inl u.1)), (h2, .inl (cB, 512, .inl u.2.1)), (g0, .inr (1, [.int 0, .ref g1, .ref g2, .int u.2.2])), (g1, .inl (cC, 4096, .inl (fun jx => mb_sg (u.1 jx)))), (g2, .inl (cD, 512, .inl (fun jx => mb_sg (u.2.1 jx))))] H → va_D (fun q : Nat => s.heap.size ≤ q) [(h0, .inr (0, [.ref h1, .ref h2, .int u.2.2])), (h1, .inl (cA, 4096, .inl u.1)), (h2, .inl (cB, 512, .inl u.2.1)), (g0, .inr (1, [.int 0, .ref g1, .ref g2, .int u.2.2])), (g1, .inl (cC, 4096, .inl (fun jx => mb_sg (u.1 jx)))), (g2, .inl (cD, 512, .inl (fun jx => mb_sg (u.2.1 jx))))] → va_S (fun q : Nat => s.heap.size ≤ q) s.heap H locs → lv_has ls 4 [(0, .ref b), (1, .ref h0), (2, .ref g0), (3, .int (nI i))] → W p l e room_1 s m #[Value.ref b] below meth c H locs 6 9223 (lw_Z below #[Value.ref b] s) (F0 m 338 ls [])) {u : Bk_} (hu : mb_inv u) {H : Heap} {locs : List Loc} (hP : va_P (dC, dI) vwCl [(h0, .inr (0, [.ref h1, .ref h2, .int u.2.2])), (h1, .inl (cA, 4096, .inl u.1)), (h2, .inl (cB, 512, .inl u.2.1)), (g0, .inr (1, [.int 0, .ref g1, .ref g2, .int u.2.2])), (g1, .inl (cC, 4096, .inl (fun jx => mb_sg (u.1 jx)))), (g2, .inl (cD, 512, .inl (fun jx => mb_sg (u.2.1 jx))))] H) (hD : va_D (fun q : Nat => s.heap.size ≤ q) [(h0, .inr (0, [.ref h1, .ref h2, .int u.2.2])), (h1, .inl (cA, 4096, .inl u.1)), (h2, .inl (cB, 512, .inl u.2.1)), (g0, .inr (1, [.int 0, .ref g1, .ref g2, .int u.2.2])), (g1, .inl (cC, 4096, .inl (fun jx => mb_sg (u.1 jx)))), (g2, .inl (cD, 512, .inl (fun jx => mb_sg (u.2.1 jx))))]) (hS : va_S (fun q : Nat => s.heap.size ≤ q) s.heap H locs) {ls : Array Slot} (hl : lv_has ls 4 [(0, .ref b), (1, .ref h0), (2, .ref g0), (3, .int (nI i))]) : W p l e room_1 s m #[Value.ref b] below meth c H locs 6 9223 (lw_Z below #[Value.ref b] s) (F0 m 134 ls []) := by
  obtain ⟨hx, hb, hr, hml, hown, hts, hX, hbl, hlocks, hgv⟩ := C0
  have hown : s.vm.findClass RL = some m.cls := hown
  have hts : ∀ w ∈ wsL_law, w.before #[Value.ref b] s = true := fun w h => hts w (wsL_law_in w h)
  have hA : ∀ q : Nat, s.heap.size ≤ q → (fun q : Nat => s.heap.size ≤ q) q := fun _ h => h
  have hbA : ¬ (fun q : Nat => s.heap.size ≤ q) b := Nat.not_le.mpr hbl
  have hi1 : vp_in (nI i + 1) L := by rw [show nI i + 1 = nI (i + 1) from nI_add i 1]; exact vp_in_nI (by omega) (by omega)
  have hi2 : vp_in (nI i + 2) L := by rw [show nI i + 2 = nI (i + 2) from nI_add i 2]; exact vp_in_nI (by omega) (by omega)
  have hi3 : vp_in (nI i + 3) L := by rw [show nI i + 3 = nI (i + 3) from nI_add i 3]; exact vp_in_nI (by omega) (by omega)
  refine lv_aload_n hx hb dL_law_134 rfl (lv_at hl 1 rfl) ?_
  have hPc := hP.sub (ws' := [(h0, .inr (0, [.ref h1, .ref h2, .int u.2.2])), (h1, .inl (cA, 4096, .inl u.1)), (h2, .inl (cB, 512, .inl u.2.1))]) [0, 1, 2] rfl
  have hDc := hD.sub (ws' := [(h0, .inr (0, [.ref h1, .ref h2, .int u.2.2])), (h1, .inl (cA, 4096, .inl u.1)), (h2, .inl (cB, 512, .inl u.2.1))]) [0, 1, 2] (by decide) rfl
  have hKc := hK.sub (tys' := [(cA, .int), (cB, .int)]) [0, 1] rfl
  have hFc := va_free (wc := [(h0, .inr (0, [.ref h1, .ref h2, .int u.2.2])), (h1, .inl (cA, 4096, .inl u.1)), (h2, .inl (cB, 512, .inl u.2.1))]) hD hS hA [0, 1, 2] rfl
  refine va_calli (va_runV (As := []) (rest := []) ⟨hx, hb, hml, hown, hts⟩ (c_size l dC dI H.size h0 h1 h2 cA cB u  hu.1) (cwV 0 hts gL_law_X0_size rfl rfl rfl (by decide +kernel) ⟨Nat.le_of_ble_eq_true rfl, Nat.le_of_ble_eq_true rfl⟩) ⟨fun a U g mk q => by obtain ⟨q0, q1, qP, qK, qD⟩ := q; exact ⟨q0, q1, qP, va_K.moved (u := U) (U := U.calling g mk a) (Vm.Alike.refl U.vm) qK, qD⟩, va_recv hKc hPc (ci := 0) (q0 := 0) rfl rfl, fun U hU hW => ⟨rfl, by rw [hU], by rw [hU]; exact hPc, va_K.moved hW.alike hKc, hDc.weaken (fun _ _ _ _ => trivial)⟩⟩ rfl rfl hl.1 rfl (lv_room (Nat.le_of_ble_eq_true rfl)) dL_law_135 ⟨by decide +kernel, by decide +kernel⟩) hS (fun q _ h => hFc q h) hFc (fun r1 u1 t H1 locs ht hvm hw_u1 hB hz1 hk1 hS => ?_)
  obtain ⟨hP1, hK1, hD1⟩ := hB
  rw [ht] at hP1
  obtain ⟨hP, hD⟩ := va_join (wr := [(g0, .inr (1, [.int 0, .ref g1, .ref g2, .int u.2.2])), (g1, .inl (cC, 4096, .inl (fun jx => mb_sg (u.1 jx)))), (g2, .inl (cD, 512, .inl (fun jx => mb_sg (u.2.1 jx))))]) (w1 := [(h0, .inr (0, [.ref h1, .ref h2, .int u1.2.2])), (h1, .inl (cA, 4096, .inl u1.1)), (h2, .inl (cB, 512, .inl u1.2.1))]) hP hD [0, 1, 2] [3, 4, 5] rfl rfl (by decide) (by decide) hk1 hFc hP1 hD1
  clear hPc hDc hFc hk1 hP1 hD1 ht
  generalize H1 = H at hP hS ⊢
  have hP : va_P (dC, dI) vwCl [(g0, .inr (1, [.int 0, .ref g1, .ref g2, .int u.2.2])), (g1, .inl (cC, 4096, .inl (fun jx => mb_sg (u.1 jx)))), (g2, .inl (cD, 512, .inl (fun jx => mb_sg (u.2.1 jx)))), (h0, .inr (0, [.ref h1, .ref h2, .int u1.2.2])), (h1, .inl (cA, 4096, .inl u1.1)), (h2, .inl (cB, 512, .inl u1.2.1))] H := hP
  have hD : va_D (fun q : Nat => s.heap.size ≤ q) [(g0, .inr (1, [.int 0, .ref g1, .ref g2, .int u.2.2])), (g1, .inl (cC, 4096, .inl (fun jx => mb_sg (u.1 jx)))), (g2, .inl (cD, 512, .inl (fun jx => mb_sg (u.2.1 jx)))), (h0, .inr (0, [.ref h1, .ref h2, .int u1.2.2])), (h1, .inl (cA, 4096, .inl u1.1)), (h2, .inl (cB, 512, .inl u1.2.1))] := hD
  refine lv_aload_n hx hb dL_law_138 rfl (lv_at hl 2 rfl) ?_
  have hPc := hP.sub (ws' := [(g0, .inr (1, [.int 0, .ref g1, .ref g2, .int u.2.2])), (g1, .inl (cC, 4096, .inl (fun jx => mb_sg (u.1 jx)))), (g2, .inl (cD, 512, .inl (fun jx => mb_sg (u.2.1 jx))))]) [0, 1, 2] rfl
  have hDc := hD.sub (ws' := [(g0, .inr (1, [.int 0, .ref g1, .ref g2, .int u.2.2])), (g1, .inl (cC, 4096, .inl (fun jx => mb_sg (u.1 jx)))), (g2, .inl (cD, 512, .inl (fun jx => mb_sg (u.2.1 jx))))]) [0, 1, 2] (by decide) rfl
  have hKc := hK.sub (tys' := [(cC, .byte), (cD, .byte)]) [2, 3] rfl
  have hFc := va_free (wc := [(g0, .inr (1, [.int 0, .ref g1, .ref g2, .int u.2.2])), (g1, .inl (cC, 4096, .inl (fun jx => mb_sg (u.1 jx)))), (g2, .inl (cD, 512, .inl (fun jx => mb_sg (u.2.1 jx))))]) hD hS hA [0, 1, 2] rfl
  refine va_calli (va_runV (As := []) (rest := [.int r1]) ⟨hx, hb, hml, hown, hts⟩ (c_msize l dC dI H.size g0 g1 g2 cC cD u  hu) (cwV 0 hts gL_law_X1_size rfl rfl rfl (by decide +kernel) ⟨Nat.le_of_ble_eq_true rfl, Nat.le_of_ble_eq_true rfl⟩) ⟨fun a U g mk q => by obtain ⟨q0, q1, qP, qK, qD⟩ := q; exact ⟨q0, q1, qP, va_K.moved (u := U) (U := U.calling g mk a) (Vm.Alike.refl U.vm) qK, qD⟩, va_recv hKc hPc (ci := 1) (q0 := 0) rfl rfl, fun U hU hW => ⟨rfl, by rw [hU], by rw [hU]; exact hPc, va_K.moved hW.alike hKc, hDc.weaken (fun _ _ _ _ => trivial)⟩⟩ rfl rfl hl.1 rfl (lv_room (Nat.le_of_ble_eq_true rfl)) dL_law_139 ⟨by decide +kernel, by decide +kernel⟩) hS (fun q _ h => hFc q h) hFc (fun r2 u2 t H1 locs ht hvm hw_u2 hB hz1 hk1 hS => ?_)
  obtain ⟨hP1, hK1, hD1⟩ := hB
  rw [ht] at hP1
  obtain ⟨hP, hD⟩ := va_join (wr := [(h0, .inr (0, [.ref h1, .ref h2, .int u1.2.2])), (h1, .inl (cA, 4096, .inl u1.1)), (h2, .inl (cB, 512, .inl u1.2.1))]) (w1 := [(g0, .inr (1, [.int 0, .ref g1, .ref g2, .int u2.2.2])), (g1, .inl (cC, 4096, .inl (fun jx => mb_sg (u2.1 jx)))), (g2, .inl (cD, 512, .inl (fun jx => mb_sg (u2.2.1 jx))))]) hP hD [0, 1, 2] [3, 4, 5] rfl rfl (by decide) (by decide) hk1 hFc hP1 hD1
  clear hPc hDc hFc hk1 hP1 hD1 ht
  generalize H1 = H at hP hS ⊢
  have hP : va_P (dC, dI) vwCl [(h0, .inr (0, [.ref h1, .ref h2, .int u1.2.2])), (h1, .inl (cA, 4096, .inl u1.1)), (h2, .inl (cB, 512, .inl u1.2.1)), (g0, .inr (1, [.int 0, .ref g1, .ref g2, .int u2.2.2])), (g1, .inl (cC, 4096, .inl (fun jx => mb_sg (u2.1 jx)))), (g2, .inl (cD, 512, .inl (fun jx => mb_sg (u2.2.1 jx))))] H := hP
  have hD : va_D (fun q : Nat => s.heap.size ≤ q) [(h0, .inr (0, [.ref h1, .ref h2, .int u1.2.2])), (h1, .inl (cA, 4096, .inl u1.1)), (h2, .inl (cB, 512, .inl u1.2.1)), (g0, .inr (1, [.int 0, .ref g1, .ref g2, .int u2.2.2])), (g1, .inl (cC, 4096, .inl (fun jx => mb_sg (u2.1 jx)))), (g2, .inl (cD, 512, .inl (fun jx => mb_sg (u2.2.1 jx))))] := hD
  obtain ⟨e1, e2⟩ := Prod.mk.inj (hw_u1.symm.trans hw_u2)
  subst e1
  subst e2
  have hu1 : mb_inv (mb_size u ).2 := hu
  rw [hw_u1] at hu1
  refine lv_icmp_eq (tgt := 338) hx hb dL_law_142 (by decide) (fun c1 => ?_) (fun c1 => ?_)
  · exact kk u1 _ _ ls hu1 hP hD hS hl
  · exact absurd rfl c1
set_option maxHeartbeats 2000000 in
set_option maxRecDepth 100000 in
/-- the law at rowAt: both answer alike, and stand alike behind it -/
theorem lo_rowAt {p : Program} {l : Launch} {e : Env} {s : State} {m : MethodId} {below : List Frame} {meth : Method} {c : Code} {dC : Nat → ClassId} {dI : Nat → Nat → Nat} {b L : Nat} {xs : Nat → Int32} (hL : L ≤ 2048) (C0 : lw_At p s m meth c b L xs) {h0 h1 h2 g0 g1 g2 : Nat} {cA cB cC cD : ClassId} (hK : va_K (dC, dI) vwCl [(cA, .int), (cB, .int), (cC, .byte), (cD, .byte)] s) {i : Nat} (hi : i + 4 ≤ L) (kk : ∀ (u : Bk_) (H : Heap) (locs : List Loc) (ls : Array Slot), mb_inv u → va_P (dC, dI) vwCl [(h0, .inr (0, [.ref h1, .ref h2, .int u.2.2])), (h1, .inl (cA, 4096, .inl u.1)), (h2, .inl (cB, 512, .inl u.2.1)), (g0, .inr (1, [.int 0, .ref g1, .ref g2, .int u.2.2])), (g1, .inl (cC, 4096, .inl (fun jx => mb_sg (u.1 jx)))), (g2, .inl (cD, 512, .inl (fun jx => mb_sg (u.2.1 jx))))] H → va_D (fun q : Nat => s.heap.size ≤ q) [(h0, .inr (0, [.ref h1, .ref h2, .int u.2.2])), (h1, .inl (cA, 4096, .inl u.1)), (h2, .inl (cB, 512, .inl u.2.1)), (g0, .inr (1, [.int 0, .ref g1, .ref g2, .int u.2.2])), (g1, .inl (cC, 4096, .inl (fun jx => mb_sg (u.1 jx)))), (g2, .inl (cD, 512, .inl (fun jx => mb_sg (u.2.1 jx))))] → va_S (fun q : Nat => s.heap.size ≤ q) s.heap H locs → lv_has ls 4 [(0, .ref b), (1, .ref h0), (2, .ref g0), (3, .int (nI i))] → W p l e room_1 s m #[Value.ref b] below meth c H locs 6 9223 (lw_Z below #[Value.ref b] s) (F0 m 338 ls [])) {u : Bk_} (hu : mb_inv u) {H : Heap} {locs : List Loc} (hP : va_P (dC, dI) vwCl [(h0, .inr (0, [.ref h1, .ref h2, .int u.2.2])), (h1, .inl (cA, 4096, .inl u.1)), (h2, .inl (cB, 512, .inl u.2.1)), (g0, .inr (1, [.int 0, .ref g1, .ref g2, .int u.2.2])), (g1, .inl (cC, 4096, .inl (fun jx => mb_sg (u.1 jx)))), (g2, .inl (cD, 512, .inl (fun jx => mb_sg (u.2.1 jx))))] H) (hD : va_D (fun q : Nat => s.heap.size ≤ q) [(h0, .inr (0, [.ref h1, .ref h2, .int u.2.2])), (h1, .inl (cA, 4096, .inl u.1)), (h2, .inl (cB, 512, .inl u.2.1)), (g0, .inr (1, [.int 0, .ref g1, .ref g2, .int u.2.2])), (g1, .inl (cC, 4096, .inl (fun jx => mb_sg (u.1 jx)))), (g2, .inl (cD, 512, .inl (fun jx => mb_sg (u.2.1 jx))))]) (hS : va_S (fun q : Nat => s.heap.size ≤ q) s.heap H locs) {ls : Array Slot} (hl : lv_has ls 4 [(0, .ref b), (1, .ref h0), (2, .ref g0), (3, .int (nI i))]) : W p l e room_1 s m #[Value.ref b] below meth c H locs 6 9223 (lw_Z below #[Value.ref b] s) (F0 m 147 ls []) := by
  obtain ⟨hx, hb, hr, hml, hown, hts, hX, hbl, hlocks, hgv⟩ := C0
  have hown : s.vm.findClass RL = some m.cls := hown
  have hts : ∀ w ∈ wsL_law, w.before #[Value.ref b] s = true := fun w h => hts w (wsL_law_in w h)
  have hA : ∀ q : Nat, s.heap.size ≤ q → (fun q : Nat => s.heap.size ≤ q) q := fun _ h => h
  have hbA : ¬ (fun q : Nat => s.heap.size ≤ q) b := Nat.not_le.mpr hbl
  have hi1 : vp_in (nI i + 1) L := by rw [show nI i + 1 = nI (i + 1) from nI_add i 1]; exact vp_in_nI (by omega) (by omega)
  have hi2 : vp_in (nI i + 2) L := by rw [show nI i + 2 = nI (i + 2) from nI_add i 2]; exact vp_in_nI (by omega) (by omega)
  have hi3 : vp_in (nI i + 3) L := by rw [show nI i + 3 = nI (i + 3) from nI_add i 3]; exact vp_in_nI (by omega) (by omega)
  refine lv_aload_n hx hb dL_law_147 rfl (lv_at hl 1 rfl) ?_
  refine lv_aload_n hx hb dL_law_148 rfl (lv_at hl 0 rfl) ?_
  refine lv_iload_n hx hb dL_law_149 rfl (lv_at hl 3 rfl) ?_
  refine lv_iconst (v := 1) hx hb dL_law_150 (by decide) ?_
  refine lv_iadd hx hb dL_law_151 ?_
  refine va_sld hx hb hX hbl hbA hS hi1 dL_law_152 ?_
  have hPc := hP.sub (ws' := [(h0, .inr (0, [.ref h1, .ref h2, .int u.2.2])), (h1, .inl (cA, 4096, .inl u.1)), (h2, .inl (cB, 512, .inl u.2.1))]) [0, 1, 2] rfl
  have hDc := hD.sub (ws' := [(h0, .inr (0, [.ref h1, .ref h2, .int u.2.2])), (h1, .inl (cA, 4096, .inl u.1)), (h2, .inl (cB, 512, .inl u.2.1))]) [0, 1, 2] (by decide) rfl
  have hKc := hK.sub (tys' := [(cA, .int), (cB, .int)]) [0, 1] rfl
  have hFc := va_free (wc := [(h0, .inr (0, [.ref h1, .ref h2, .int u.2.2])), (h1, .inl (cA, 4096, .inl u.1)), (h2, .inl (cB, 512, .inl u.2.1))]) hD hS hA [0, 1, 2] rfl
  refine va_calli (va_runV (As := [.int (xs ((nI i) + 1).toNatClampNeg)]) (rest := []) ⟨hx, hb, hml, hown, hts⟩ (c_rowAt l dC dI H.size h0 h1 h2 cA cB u (xs (nI i + 1).toNatClampNeg) hu.1) (cwV 1 hts gL_law_X0_rowAt rfl rfl rfl (by decide +kernel) ⟨Nat.le_of_ble_eq_true rfl, Nat.le_of_ble_eq_true rfl⟩) ⟨fun a U g mk q => by obtain ⟨q0, q1, qP, qK, qD⟩ := q; exact ⟨q0, q1, qP, va_K.moved (u := U) (U := U.calling g mk a) (Vm.Alike.refl U.vm) qK, qD⟩, va_recv hKc hPc (ci := 0) (q0 := 0) rfl rfl, fun U hU hW => ⟨rfl, by rw [hU], by rw [hU]; exact hPc, va_K.moved hW.alike hKc, hDc.weaken (fun _ _ _ _ => trivial)⟩⟩ rfl rfl hl.1 rfl (lv_room (Nat.le_of_ble_eq_true rfl)) dL_law_153 ⟨by decide +kernel, by decide +kernel⟩) hS (fun q _ h => hFc q h) hFc (fun r1 u1 t H1 locs ht hvm hw_u1 hB hz1 hk1 hS => ?_)
  obtain ⟨hP1, hK1, hD1⟩ := hB
  rw [ht] at hP1
  obtain ⟨hP, hD⟩ := va_join (wr := [(g0, .inr (1, [.int 0, .ref g1, .ref g2, .int u.2.2])), (g1, .inl (cC, 4096, .inl (fun jx => mb_sg (u.1 jx)))), (g2, .inl (cD, 512, .inl (fun jx => mb_sg (u.2.1 jx))))]) (w1 := [(h0, .inr (0, [.ref h1, .ref h2, .int u1.2.2])), (h1, .inl (cA, 4096, .inl u1.1)), (h2, .inl (cB, 512, .inl u1.2.1))]) hP hD [0, 1, 2] [3, 4, 5] rfl rfl (by decide) (by decide) hk1 hFc hP1 hD1
  clear hPc hDc hFc hk1 hP1 hD1 ht
  generalize H1 = H at hP hS ⊢
  have hP : va_P (dC, dI) vwCl [(g0, .inr (1, [.int 0, .ref g1, .ref g2, .int u.2.2])), (g1, .inl (cC, 4096, .inl (fun jx => mb_sg (u.1 jx)))), (g2, .inl (cD, 512, .inl (fun jx => mb_sg (u.2.1 jx)))), (h0, .inr (0, [.ref h1, .ref h2, .int u1.2.2])), (h1, .inl (cA, 4096, .inl u1.1)), (h2, .inl (cB, 512, .inl u1.2.1))] H := hP
  have hD : va_D (fun q : Nat => s.heap.size ≤ q) [(g0, .inr (1, [.int 0, .ref g1, .ref g2, .int u.2.2])), (g1, .inl (cC, 4096, .inl (fun jx => mb_sg (u.1 jx)))), (g2, .inl (cD, 512, .inl (fun jx => mb_sg (u.2.1 jx)))), (h0, .inr (0, [.ref h1, .ref h2, .int u1.2.2])), (h1, .inl (cA, 4096, .inl u1.1)), (h2, .inl (cB, 512, .inl u1.2.1))] := hD
  refine lv_aload_n hx hb dL_law_156 rfl (lv_at hl 2 rfl) ?_
  refine lv_aload_n hx hb dL_law_157 rfl (lv_at hl 0 rfl) ?_
  refine lv_iload_n hx hb dL_law_158 rfl (lv_at hl 3 rfl) ?_
  refine lv_iconst (v := 1) hx hb dL_law_159 (by decide) ?_
  refine lv_iadd hx hb dL_law_160 ?_
  refine va_sld hx hb hX hbl hbA hS hi1 dL_law_161 ?_
  have hPc := hP.sub (ws' := [(g0, .inr (1, [.int 0, .ref g1, .ref g2, .int u.2.2])), (g1, .inl (cC, 4096, .inl (fun jx => mb_sg (u.1 jx)))), (g2, .inl (cD, 512, .inl (fun jx => mb_sg (u.2.1 jx))))]) [0, 1, 2] rfl
  have hDc := hD.sub (ws' := [(g0, .inr (1, [.int 0, .ref g1, .ref g2, .int u.2.2])), (g1, .inl (cC, 4096, .inl (fun jx => mb_sg (u.1 jx)))), (g2, .inl (cD, 512, .inl (fun jx => mb_sg (u.2.1 jx))))]) [0, 1, 2] (by decide) rfl
  have hKc := hK.sub (tys' := [(cC, .byte), (cD, .byte)]) [2, 3] rfl
  have hFc := va_free (wc := [(g0, .inr (1, [.int 0, .ref g1, .ref g2, .int u.2.2])), (g1, .inl (cC, 4096, .inl (fun jx => mb_sg (u.1 jx)))), (g2, .inl (cD, 512, .inl (fun jx => mb_sg (u.2.1 jx))))]) hD hS hA [0, 1, 2] rfl
  refine va_calli (va_runV (As := [.int (xs ((nI i) + 1).toNatClampNeg)]) (rest := [.int r1]) ⟨hx, hb, hml, hown, hts⟩ (c_mrowAt l dC dI H.size g0 g1 g2 cC cD u (xs (nI i + 1).toNatClampNeg) hu) (cwV 1 hts gL_law_X1_rowAt rfl rfl rfl (by decide +kernel) ⟨Nat.le_of_ble_eq_true rfl, Nat.le_of_ble_eq_true rfl⟩) ⟨fun a U g mk q => by obtain ⟨q0, q1, qP, qK, qD⟩ := q; exact ⟨q0, q1, qP, va_K.moved (u := U) (U := U.calling g mk a) (Vm.Alike.refl U.vm) qK, qD⟩, va_recv hKc hPc (ci := 1) (q0 := 0) rfl rfl, fun U hU hW => ⟨rfl, by rw [hU], by rw [hU]; exact hPc, va_K.moved hW.alike hKc, hDc.weaken (fun _ _ _ _ => trivial)⟩⟩ rfl rfl hl.1 rfl (lv_room (Nat.le_of_ble_eq_true rfl)) dL_law_162 ⟨by decide +kernel, by decide +kernel⟩) hS (fun q _ h => hFc q h) hFc (fun r2 u2 t H1 locs ht hvm hw_u2 hB hz1 hk1 hS => ?_)
  obtain ⟨hP1, hK1, hD1⟩ := hB
  rw [ht] at hP1
  obtain ⟨hP, hD⟩ := va_join (wr := [(h0, .inr (0, [.ref h1, .ref h2, .int u1.2.2])), (h1, .inl (cA, 4096, .inl u1.1)), (h2, .inl (cB, 512, .inl u1.2.1))]) (w1 := [(g0, .inr (1, [.int 0, .ref g1, .ref g2, .int u2.2.2])), (g1, .inl (cC, 4096, .inl (fun jx => mb_sg (u2.1 jx)))), (g2, .inl (cD, 512, .inl (fun jx => mb_sg (u2.2.1 jx))))]) hP hD [0, 1, 2] [3, 4, 5] rfl rfl (by decide) (by decide) hk1 hFc hP1 hD1
  clear hPc hDc hFc hk1 hP1 hD1 ht
  generalize H1 = H at hP hS ⊢
  have hP : va_P (dC, dI) vwCl [(h0, .inr (0, [.ref h1, .ref h2, .int u1.2.2])), (h1, .inl (cA, 4096, .inl u1.1)), (h2, .inl (cB, 512, .inl u1.2.1)), (g0, .inr (1, [.int 0, .ref g1, .ref g2, .int u2.2.2])), (g1, .inl (cC, 4096, .inl (fun jx => mb_sg (u2.1 jx)))), (g2, .inl (cD, 512, .inl (fun jx => mb_sg (u2.2.1 jx))))] H := hP
  have hD : va_D (fun q : Nat => s.heap.size ≤ q) [(h0, .inr (0, [.ref h1, .ref h2, .int u1.2.2])), (h1, .inl (cA, 4096, .inl u1.1)), (h2, .inl (cB, 512, .inl u1.2.1)), (g0, .inr (1, [.int 0, .ref g1, .ref g2, .int u2.2.2])), (g1, .inl (cC, 4096, .inl (fun jx => mb_sg (u2.1 jx)))), (g2, .inl (cD, 512, .inl (fun jx => mb_sg (u2.2.1 jx))))] := hD
  obtain ⟨e1, e2⟩ := Prod.mk.inj (hw_u1.symm.trans hw_u2)
  subst e1
  subst e2
  have hu1 : mb_inv (mb_rowAt u (xs (nI i + 1).toNatClampNeg)).2 := by unfold mb_rowAt; exact mb_rd_inv hu
  rw [hw_u1] at hu1
  refine lv_icmp_eq (tgt := 338) hx hb dL_law_165 (by decide) (fun c1 => ?_) (fun c1 => ?_)
  · exact kk u1 _ _ ls hu1 hP hD hS hl
  · exact absurd rfl c1
set_option maxHeartbeats 2000000 in
set_option maxRecDepth 100000 in
/-- the law at load: both answer alike, and stand alike behind it -/
theorem lo_load {p : Program} {l : Launch} {e : Env} {s : State} {m : MethodId} {below : List Frame} {meth : Method} {c : Code} {dC : Nat → ClassId} {dI : Nat → Nat → Nat} {b L : Nat} {xs : Nat → Int32} (hL : L ≤ 2048) (C0 : lw_At p s m meth c b L xs) {h0 h1 h2 g0 g1 g2 : Nat} {cA cB cC cD : ClassId} (hK : va_K (dC, dI) vwCl [(cA, .int), (cB, .int), (cC, .byte), (cD, .byte)] s) {i : Nat} (hi : i + 4 ≤ L) (kk : ∀ (u : Bk_) (H : Heap) (locs : List Loc) (ls : Array Slot), mb_inv u → va_P (dC, dI) vwCl [(h0, .inr (0, [.ref h1, .ref h2, .int u.2.2])), (h1, .inl (cA, 4096, .inl u.1)), (h2, .inl (cB, 512, .inl u.2.1)), (g0, .inr (1, [.int 0, .ref g1, .ref g2, .int u.2.2])), (g1, .inl (cC, 4096, .inl (fun jx => mb_sg (u.1 jx)))), (g2, .inl (cD, 512, .inl (fun jx => mb_sg (u.2.1 jx))))] H → va_D (fun q : Nat => s.heap.size ≤ q) [(h0, .inr (0, [.ref h1, .ref h2, .int u.2.2])), (h1, .inl (cA, 4096, .inl u.1)), (h2, .inl (cB, 512, .inl u.2.1)), (g0, .inr (1, [.int 0, .ref g1, .ref g2, .int u.2.2])), (g1, .inl (cC, 4096, .inl (fun jx => mb_sg (u.1 jx)))), (g2, .inl (cD, 512, .inl (fun jx => mb_sg (u.2.1 jx))))] → va_S (fun q : Nat => s.heap.size ≤ q) s.heap H locs → lv_has ls 4 [(0, .ref b), (1, .ref h0), (2, .ref g0), (3, .int (nI i))] → W p l e room_1 s m #[Value.ref b] below meth c H locs 6 9223 (lw_Z below #[Value.ref b] s) (F0 m 338 ls [])) {u : Bk_} (hu : mb_inv u) {H : Heap} {locs : List Loc} (hP : va_P (dC, dI) vwCl [(h0, .inr (0, [.ref h1, .ref h2, .int u.2.2])), (h1, .inl (cA, 4096, .inl u.1)), (h2, .inl (cB, 512, .inl u.2.1)), (g0, .inr (1, [.int 0, .ref g1, .ref g2, .int u.2.2])), (g1, .inl (cC, 4096, .inl (fun jx => mb_sg (u.1 jx)))), (g2, .inl (cD, 512, .inl (fun jx => mb_sg (u.2.1 jx))))] H) (hD : va_D (fun q : Nat => s.heap.size ≤ q) [(h0, .inr (0, [.ref h1, .ref h2, .int u.2.2])), (h1, .inl (cA, 4096, .inl u.1)), (h2, .inl (cB, 512, .inl u.2.1)), (g0, .inr (1, [.int 0, .ref g1, .ref g2, .int u.2.2])), (g1, .inl (cC, 4096, .inl (fun jx => mb_sg (u.1 jx)))), (g2, .inl (cD, 512, .inl (fun jx => mb_sg (u.2.1 jx))))]) (hS : va_S (fun q : Nat => s.heap.size ≤ q) s.heap H locs) {ls : Array Slot} (hl : lv_has ls 4 [(0, .ref b), (1, .ref h0), (2, .ref g0), (3, .int (nI i))]) : W p l e room_1 s m #[Value.ref b] below meth c H locs 6 9223 (lw_Z below #[Value.ref b] s) (F0 m 170 ls []) := by
  obtain ⟨hx, hb, hr, hml, hown, hts, hX, hbl, hlocks, hgv⟩ := C0
  have hown : s.vm.findClass RL = some m.cls := hown
  have hts : ∀ w ∈ wsL_law, w.before #[Value.ref b] s = true := fun w h => hts w (wsL_law_in w h)
  have hA : ∀ q : Nat, s.heap.size ≤ q → (fun q : Nat => s.heap.size ≤ q) q := fun _ h => h
  have hbA : ¬ (fun q : Nat => s.heap.size ≤ q) b := Nat.not_le.mpr hbl
  have hi1 : vp_in (nI i + 1) L := by rw [show nI i + 1 = nI (i + 1) from nI_add i 1]; exact vp_in_nI (by omega) (by omega)
  have hi2 : vp_in (nI i + 2) L := by rw [show nI i + 2 = nI (i + 2) from nI_add i 2]; exact vp_in_nI (by omega) (by omega)
  have hi3 : vp_in (nI i + 3) L := by rw [show nI i + 3 = nI (i + 3) from nI_add i 3]; exact vp_in_nI (by omega) (by omega)
  refine lv_aload_n hx hb dL_law_170 rfl (lv_at hl 1 rfl) ?_
  refine lv_aload_n hx hb dL_law_171 rfl (lv_at hl 0 rfl) ?_
  refine lv_iload_n hx hb dL_law_172 rfl (lv_at hl 3 rfl) ?_
  refine lv_iconst (v := 1) hx hb dL_law_173 (by decide) ?_
  refine lv_iadd hx hb dL_law_174 ?_
  refine va_sld hx hb hX hbl hbA hS hi1 dL_law_175 ?_
  refine lv_aload_n hx hb dL_law_176 rfl (lv_at hl 0 rfl) ?_
  refine lv_iload_n hx hb dL_law_177 rfl (lv_at hl 3 rfl) ?_
  refine lv_iconst (v := 2) hx hb dL_law_178 (by decide) ?_
  refine lv_iadd hx hb dL_law_179 ?_
  refine va_sld hx hb hX hbl hbA hS hi2 dL_law_180 ?_
  refine lv_aload_n hx hb dL_law_181 rfl (lv_at hl 0 rfl) ?_
  refine lv_iload_n hx hb dL_law_182 rfl (lv_at hl 3 rfl) ?_
  refine lv_iconst (v := 3) hx hb dL_law_183 (by decide) ?_
  refine lv_iadd hx hb dL_law_184 ?_
  refine va_sld hx hb hX hbl hbA hS hi3 dL_law_185 ?_
  have hPc := hP.sub (ws' := [(h0, .inr (0, [.ref h1, .ref h2, .int u.2.2])), (h1, .inl (cA, 4096, .inl u.1)), (h2, .inl (cB, 512, .inl u.2.1))]) [0, 1, 2] rfl
  have hDc := hD.sub (ws' := [(h0, .inr (0, [.ref h1, .ref h2, .int u.2.2])), (h1, .inl (cA, 4096, .inl u.1)), (h2, .inl (cB, 512, .inl u.2.1))]) [0, 1, 2] (by decide) rfl
  have hKc := hK.sub (tys' := [(cA, .int), (cB, .int)]) [0, 1] rfl
  have hFc := va_free (wc := [(h0, .inr (0, [.ref h1, .ref h2, .int u.2.2])), (h1, .inl (cA, 4096, .inl u.1)), (h2, .inl (cB, 512, .inl u.2.1))]) hD hS hA [0, 1, 2] rfl
  refine va_calli (va_runV (As := [.int (xs ((nI i) + 1).toNatClampNeg), .int (xs ((nI i) + 2).toNatClampNeg), .int (xs ((nI i) + 3).toNatClampNeg)]) (rest := []) ⟨hx, hb, hml, hown, hts⟩ (c_load l dC dI H.size h0 h1 h2 cA cB u (xs (nI i + 1).toNatClampNeg) (xs (nI i + 2).toNatClampNeg) (xs (nI i + 3).toNatClampNeg) hu.1) (cwV 3 hts gL_law_X0_load rfl rfl rfl (by decide +kernel) ⟨Nat.le_of_ble_eq_true rfl, Nat.le_of_ble_eq_true rfl⟩) ⟨fun a U g mk q => by obtain ⟨q0, q1, qP, qK, qD⟩ := q; exact ⟨q0, q1, qP, va_K.moved (u := U) (U := U.calling g mk a) (Vm.Alike.refl U.vm) qK, qD⟩, va_recv hKc hPc (ci := 0) (q0 := 0) rfl rfl, fun U hU hW => ⟨rfl, by rw [hU], by rw [hU]; exact hPc, va_K.moved hW.alike hKc, hDc.weaken (fun _ _ _ _ => trivial)⟩⟩ rfl rfl hl.1 rfl (lv_room (Nat.le_of_ble_eq_true rfl)) dL_law_186 ⟨by decide +kernel, by decide +kernel⟩) hS (fun q _ h => hFc q h) hFc (fun r1 u1 t H1 locs ht hvm hw_u1 hB hz1 hk1 hS => ?_)
  obtain ⟨hP1, hK1, hD1⟩ := hB
  rw [ht] at hP1
  obtain ⟨hP, hD⟩ := va_join (wr := [(g0, .inr (1, [.int 0, .ref g1, .ref g2, .int u.2.2])), (g1, .inl (cC, 4096, .inl (fun jx => mb_sg (u.1 jx)))), (g2, .inl (cD, 512, .inl (fun jx => mb_sg (u.2.1 jx))))]) (w1 := [(h0, .inr (0, [.ref h1, .ref h2, .int u1.2.2])), (h1, .inl (cA, 4096, .inl u1.1)), (h2, .inl (cB, 512, .inl u1.2.1))]) hP hD [0, 1, 2] [3, 4, 5] rfl rfl (by decide) (by decide) hk1 hFc hP1 hD1
  clear hPc hDc hFc hk1 hP1 hD1 ht
  generalize H1 = H at hP hS ⊢
  have hP : va_P (dC, dI) vwCl [(g0, .inr (1, [.int 0, .ref g1, .ref g2, .int u.2.2])), (g1, .inl (cC, 4096, .inl (fun jx => mb_sg (u.1 jx)))), (g2, .inl (cD, 512, .inl (fun jx => mb_sg (u.2.1 jx)))), (h0, .inr (0, [.ref h1, .ref h2, .int u1.2.2])), (h1, .inl (cA, 4096, .inl u1.1)), (h2, .inl (cB, 512, .inl u1.2.1))] H := hP
  have hD : va_D (fun q : Nat => s.heap.size ≤ q) [(g0, .inr (1, [.int 0, .ref g1, .ref g2, .int u.2.2])), (g1, .inl (cC, 4096, .inl (fun jx => mb_sg (u.1 jx)))), (g2, .inl (cD, 512, .inl (fun jx => mb_sg (u.2.1 jx)))), (h0, .inr (0, [.ref h1, .ref h2, .int u1.2.2])), (h1, .inl (cA, 4096, .inl u1.1)), (h2, .inl (cB, 512, .inl u1.2.1))] := hD
  refine lv_aload_n hx hb dL_law_189 rfl (lv_at hl 2 rfl) ?_
  refine lv_aload_n hx hb dL_law_190 rfl (lv_at hl 0 rfl) ?_
  refine lv_iload_n hx hb dL_law_191 rfl (lv_at hl 3 rfl) ?_
  refine lv_iconst (v := 1) hx hb dL_law_192 (by decide) ?_
  refine lv_iadd hx hb dL_law_193 ?_
  refine va_sld hx hb hX hbl hbA hS hi1 dL_law_194 ?_
  refine lv_aload_n hx hb dL_law_195 rfl (lv_at hl 0 rfl) ?_
  refine lv_iload_n hx hb dL_law_196 rfl (lv_at hl 3 rfl) ?_
  refine lv_iconst (v := 2) hx hb dL_law_197 (by decide) ?_
  refine lv_iadd hx hb dL_law_198 ?_
  refine va_sld hx hb hX hbl hbA hS hi2 dL_law_199 ?_
  refine lv_aload_n hx hb dL_law_200 rfl (lv_at hl 0 rfl) ?_
  refine lv_iload_n hx hb dL_law_201 rfl (lv_at hl 3 rfl) ?_
  refine lv_iconst (v := 3) hx hb dL_law_202 (by decide) ?_
  refine lv_iadd hx hb dL_law_203 ?_
  refine va_sld hx hb hX hbl hbA hS hi3 dL_law_204 ?_
  have hPc := hP.sub (ws' := [(g0, .inr (1, [.int 0, .ref g1, .ref g2, .int u.2.2])), (g1, .inl (cC, 4096, .inl (fun jx => mb_sg (u.1 jx)))), (g2, .inl (cD, 512, .inl (fun jx => mb_sg (u.2.1 jx))))]) [0, 1, 2] rfl
  have hDc := hD.sub (ws' := [(g0, .inr (1, [.int 0, .ref g1, .ref g2, .int u.2.2])), (g1, .inl (cC, 4096, .inl (fun jx => mb_sg (u.1 jx)))), (g2, .inl (cD, 512, .inl (fun jx => mb_sg (u.2.1 jx))))]) [0, 1, 2] (by decide) rfl
  have hKc := hK.sub (tys' := [(cC, .byte), (cD, .byte)]) [2, 3] rfl
  have hFc := va_free (wc := [(g0, .inr (1, [.int 0, .ref g1, .ref g2, .int u.2.2])), (g1, .inl (cC, 4096, .inl (fun jx => mb_sg (u.1 jx)))), (g2, .inl (cD, 512, .inl (fun jx => mb_sg (u.2.1 jx))))]) hD hS hA [0, 1, 2] rfl
  refine va_calli (va_runV (As := [.int (xs ((nI i) + 1).toNatClampNeg), .int (xs ((nI i) + 2).toNatClampNeg), .int (xs ((nI i) + 3).toNatClampNeg)]) (rest := [.int r1]) ⟨hx, hb, hml, hown, hts⟩ (c_mload l dC dI H.size g0 g1 g2 cC cD u (xs (nI i + 1).toNatClampNeg) (xs (nI i + 2).toNatClampNeg) (xs (nI i + 3).toNatClampNeg) hu) (cwV 3 hts gL_law_X1_load rfl rfl rfl (by decide +kernel) ⟨Nat.le_of_ble_eq_true rfl, Nat.le_of_ble_eq_true rfl⟩) ⟨fun a U g mk q => by obtain ⟨q0, q1, qP, qK, qD⟩ := q; exact ⟨q0, q1, qP, va_K.moved (u := U) (U := U.calling g mk a) (Vm.Alike.refl U.vm) qK, qD⟩, va_recv hKc hPc (ci := 1) (q0 := 0) rfl rfl, fun U hU hW => ⟨rfl, by rw [hU], by rw [hU]; exact hPc, va_K.moved hW.alike hKc, hDc.weaken (fun _ _ _ _ => trivial)⟩⟩ rfl rfl hl.1 rfl (lv_room (Nat.le_of_ble_eq_true rfl)) dL_law_205 ⟨by decide +kernel, by decide +kernel⟩) hS (fun q _ h => hFc q h) hFc (fun r2 u2 t H1 locs ht hvm hw_u2 hB hz1 hk1 hS => ?_)
  obtain ⟨hP1, hK1, hD1⟩ := hB
  rw [ht] at hP1
  obtain ⟨hP, hD⟩ := va_join (wr := [(h0, .inr (0, [.ref h1, .ref h2, .int u1.2.2])), (h1, .inl (cA, 4096, .inl u1.1)), (h2, .inl (cB, 512, .inl u1.2.1))]) (w1 := [(g0, .inr (1, [.int 0, .ref g1, .ref g2, .int u2.2.2])), (g1, .inl (cC, 4096, .inl (fun jx => mb_sg (u2.1 jx)))), (g2, .inl (cD, 512, .inl (fun jx => mb_sg (u2.2.1 jx))))]) hP hD [0, 1, 2] [3, 4, 5] rfl rfl (by decide) (by decide) hk1 hFc hP1 hD1
  clear hPc hDc hFc hk1 hP1 hD1 ht
  generalize H1 = H at hP hS ⊢
  have hP : va_P (dC, dI) vwCl [(h0, .inr (0, [.ref h1, .ref h2, .int u1.2.2])), (h1, .inl (cA, 4096, .inl u1.1)), (h2, .inl (cB, 512, .inl u1.2.1)), (g0, .inr (1, [.int 0, .ref g1, .ref g2, .int u2.2.2])), (g1, .inl (cC, 4096, .inl (fun jx => mb_sg (u2.1 jx)))), (g2, .inl (cD, 512, .inl (fun jx => mb_sg (u2.2.1 jx))))] H := hP
  have hD : va_D (fun q : Nat => s.heap.size ≤ q) [(h0, .inr (0, [.ref h1, .ref h2, .int u1.2.2])), (h1, .inl (cA, 4096, .inl u1.1)), (h2, .inl (cB, 512, .inl u1.2.1)), (g0, .inr (1, [.int 0, .ref g1, .ref g2, .int u2.2.2])), (g1, .inl (cC, 4096, .inl (fun jx => mb_sg (u2.1 jx)))), (g2, .inl (cD, 512, .inl (fun jx => mb_sg (u2.2.1 jx))))] := hD
  obtain ⟨e1, e2⟩ := Prod.mk.inj (hw_u1.symm.trans hw_u2)
  subst e1
  subst e2
  have hu1 : mb_inv (mb_load u (xs (nI i + 1).toNatClampNeg) (xs (nI i + 2).toNatClampNeg) (xs (nI i + 3).toNatClampNeg)).2 := mb_load_inv hu (xs (nI i + 1).toNatClampNeg) (xs (nI i + 2).toNatClampNeg) (xs (nI i + 3).toNatClampNeg)
  rw [hw_u1] at hu1
  refine lv_icmp_eq (tgt := 338) hx hb dL_law_208 (by decide) (fun c1 => ?_) (fun c1 => ?_)
  · exact kk u1 _ _ ls hu1 hP hD hS hl
  · exact absurd rfl c1
