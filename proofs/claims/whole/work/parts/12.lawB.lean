set_option maxHeartbeats 2000000 in
set_option maxRecDepth 100000 in
/-- the law at dump: both answer alike, and stand alike behind it -/
theorem lo_dump {p : Program} {l : Launch} {e : Env} {s : State} {m : MethodId} {below : List Frame} {meth : Method} {c : Code} {dC : Nat → ClassId} {dI : Nat → Nat → Nat} {b L : Nat} {xs : Nat → Int32} (hL : L ≤ 2048) (C0 : lw_At p s m meth c b L xs) {h0 h1 h2 g0 g1 g2 : Nat} {cA cB cC cD : ClassId} (hK : va_K (dC, dI) vwCl [(cA, .int), (cB, .int), (cC, .byte), (cD, .byte)] s) {i : Nat} (hi : i + 4 ≤ L) (kk : ∀ (u : Bk_) (H : Heap) (locs : List Loc) (ls : Array Slot), mb_inv u → va_P (dC, dI) vwCl [(h0, .inr (0, [.ref h1, .ref h2, .int u.2.2])), (h1, .inl (cA, 4096, .inl u.1)), (h2, .inl (cB, 512, .inl u.2.1)), (g0, .inr (1, [.int 0, .ref g1, .ref g2, .int u.2.2])), (g1, .inl (cC, 4096, .inl (fun jx => mb_sg (u.1 jx)))), (g2, .inl (cD, 512, .inl (fun jx => mb_sg (u.2.1 jx))))] H → va_D (fun q : Nat => s.heap.size ≤ q) [(h0, .inr (0, [.ref h1, .ref h2, .int u.2.2])), (h1, .inl (cA, 4096, .inl u.1)), (h2, .inl (cB, 512, .inl u.2.1)), (g0, .inr (1, [.int 0, .ref g1, .ref g2, .int u.2.2])), (g1, .inl (cC, 4096, .inl (fun jx => mb_sg (u.1 jx)))), (g2, .inl (cD, 512, .inl (fun jx => mb_sg (u.2.1 jx))))] → va_S (fun q : Nat => s.heap.size ≤ q) s.heap H locs → lv_has ls 4 [(0, .ref b), (1, .ref h0), (2, .ref g0), (3, .int (nI i))] → W p l e room_1 s m #[Value.ref b] below meth c H locs 6 9223 (lw_Z below #[Value.ref b] s) (F0 m 338 ls [])) {u : Bk_} (hu : mb_inv u) {H : Heap} {locs : List Loc} (hP : va_P (dC, dI) vwCl [(h0, .inr (0, [.ref h1, .ref h2, .int u.2.2])), (h1, .inl (cA, 4096, .inl u.1)), (h2, .inl (cB, 512, .inl u.2.1)), (g0, .inr (1, [.int 0, .ref g1, .ref g2, .int u.2.2])), (g1, .inl (cC, 4096, .inl (fun jx => mb_sg (u.1 jx)))), (g2, .inl (cD, 512, .inl (fun jx => mb_sg (u.2.1 jx))))] H) (hD : va_D (fun q : Nat => s.heap.size ≤ q) [(h0, .inr (0, [.ref h1, .ref h2, .int u.2.2])), (h1, .inl (cA, 4096, .inl u.1)), (h2, .inl (cB, 512, .inl u.2.1)), (g0, .inr (1, [.int 0, .ref g1, .ref g2, .int u.2.2])), (g1, .inl (cC, 4096, .inl (fun jx => mb_sg (u.1 jx)))), (g2, .inl (cD, 512, .inl (fun jx => mb_sg (u.2.1 jx))))]) (hS : va_S (fun q : Nat => s.heap.size ≤ q) s.heap H locs) {ls : Array Slot} (hl : lv_has ls 4 [(0, .ref b), (1, .ref h0), (2, .ref g0), (3, .int (nI i))]) : W p l e room_1 s m #[Value.ref b] below meth c H locs 6 9223 (lw_Z below #[Value.ref b] s) (F0 m 213 ls []) := by
  obtain ⟨hx, hb, hr, hml, hown, hts, hX, hbl, hlocks, hgv⟩ := C0
  have hown : s.vm.findClass RL = some m.cls := hown
  have hts : ∀ w ∈ wsL_law, w.before #[Value.ref b] s = true := fun w h => hts w (wsL_law_in w h)
  have hA : ∀ q : Nat, s.heap.size ≤ q → (fun q : Nat => s.heap.size ≤ q) q := fun _ h => h
  have hbA : ¬ (fun q : Nat => s.heap.size ≤ q) b := Nat.not_le.mpr hbl
  have hi1 : vp_in (nI i + 1) L := by rw [show nI i + 1 = nI (i + 1) from nI_add i 1]; exact vp_in_nI (by omega) (by omega)
  have hi2 : vp_in (nI i + 2) L := by rw [show nI i + 2 = nI (i + 2) from nI_add i 2]; exact vp_in_nI (by omega) (by omega)
  have hi3 : vp_in (nI i + 3) L := by rw [show nI i + 3 = nI (i + 3) from nI_add i 3]; exact vp_in_nI (by omega) (by omega)
  refine lv_aload_n hx hb dL_law_213 rfl (lv_at hl 1 rfl) ?_
  refine lv_aload_n hx hb dL_law_214 rfl (lv_at hl 0 rfl) ?_
  refine lv_iload_n hx hb dL_law_215 rfl (lv_at hl 3 rfl) ?_
  refine lv_iconst (v := 1) hx hb dL_law_216 (by decide) ?_
  refine lv_iadd hx hb dL_law_217 ?_
  refine va_sld hx hb hX hbl hbA hS hi1 dL_law_218 ?_
  refine lv_aload_n hx hb dL_law_219 rfl (lv_at hl 0 rfl) ?_
  refine lv_iload_n hx hb dL_law_220 rfl (lv_at hl 3 rfl) ?_
  refine lv_iconst (v := 2) hx hb dL_law_221 (by decide) ?_
  refine lv_iadd hx hb dL_law_222 ?_
  refine va_sld hx hb hX hbl hbA hS hi2 dL_law_223 ?_
  have hPc := hP.sub (ws' := [(h0, .inr (0, [.ref h1, .ref h2, .int u.2.2])), (h1, .inl (cA, 4096, .inl u.1)), (h2, .inl (cB, 512, .inl u.2.1))]) [0, 1, 2] rfl
  have hDc := hD.sub (ws' := [(h0, .inr (0, [.ref h1, .ref h2, .int u.2.2])), (h1, .inl (cA, 4096, .inl u.1)), (h2, .inl (cB, 512, .inl u.2.1))]) [0, 1, 2] (by decide) rfl
  have hKc := hK.sub (tys' := [(cA, .int), (cB, .int)]) [0, 1] rfl
  have hFc := va_free (wc := [(h0, .inr (0, [.ref h1, .ref h2, .int u.2.2])), (h1, .inl (cA, 4096, .inl u.1)), (h2, .inl (cB, 512, .inl u.2.1))]) hD hS hA [0, 1, 2] rfl
  refine va_calli (va_runV (As := [.int (xs ((nI i) + 1).toNatClampNeg), .int (xs ((nI i) + 2).toNatClampNeg)]) (rest := []) ⟨hx, hb, hml, hown, hts⟩ (c_dump l dC dI H.size h0 h1 h2 cA cB u (xs (nI i + 1).toNatClampNeg) (xs (nI i + 2).toNatClampNeg) hu.1) (cwV 2 hts gL_law_X0_dump rfl rfl rfl (by decide +kernel) ⟨Nat.le_of_ble_eq_true rfl, Nat.le_of_ble_eq_true rfl⟩) ⟨fun a U g mk q => by obtain ⟨q0, q1, qP, qK, qD⟩ := q; exact ⟨q0, q1, qP, va_K.moved (u := U) (U := U.calling g mk a) (Vm.Alike.refl U.vm) qK, qD⟩, va_recv hKc hPc (ci := 0) (q0 := 0) rfl rfl, fun U hU hW => ⟨rfl, by rw [hU], by rw [hU]; exact hPc, va_K.moved hW.alike hKc, hDc.weaken (fun _ _ _ _ => trivial)⟩⟩ rfl rfl hl.1 rfl (lv_room (Nat.le_of_ble_eq_true rfl)) dL_law_224 ⟨by decide +kernel, by decide +kernel⟩) hS (fun q _ h => hFc q h) hFc (fun r1 u1 t H1 locs ht hvm hw_u1 hB hz1 hk1 hS => ?_)
  obtain ⟨hP1, hK1, hD1⟩ := hB
  rw [ht] at hP1
  obtain ⟨hP, hD⟩ := va_join (wr := [(g0, .inr (1, [.int 0, .ref g1, .ref g2, .int u.2.2])), (g1, .inl (cC, 4096, .inl (fun jx => mb_sg (u.1 jx)))), (g2, .inl (cD, 512, .inl (fun jx => mb_sg (u.2.1 jx))))]) (w1 := [(h0, .inr (0, [.ref h1, .ref h2, .int u1.2.2])), (h1, .inl (cA, 4096, .inl u1.1)), (h2, .inl (cB, 512, .inl u1.2.1))]) hP hD [0, 1, 2] [3, 4, 5] rfl rfl (by decide) (by decide) hk1 hFc hP1 hD1
  clear hPc hDc hFc hk1 hP1 hD1 ht
  generalize H1 = H at hP hS ⊢
  have hP : va_P (dC, dI) vwCl [(g0, .inr (1, [.int 0, .ref g1, .ref g2, .int u.2.2])), (g1, .inl (cC, 4096, .inl (fun jx => mb_sg (u.1 jx)))), (g2, .inl (cD, 512, .inl (fun jx => mb_sg (u.2.1 jx)))), (h0, .inr (0, [.ref h1, .ref h2, .int u1.2.2])), (h1, .inl (cA, 4096, .inl u1.1)), (h2, .inl (cB, 512, .inl u1.2.1))] H := hP
  have hD : va_D (fun q : Nat => s.heap.size ≤ q) [(g0, .inr (1, [.int 0, .ref g1, .ref g2, .int u.2.2])), (g1, .inl (cC, 4096, .inl (fun jx => mb_sg (u.1 jx)))), (g2, .inl (cD, 512, .inl (fun jx => mb_sg (u.2.1 jx)))), (h0, .inr (0, [.ref h1, .ref h2, .int u1.2.2])), (h1, .inl (cA, 4096, .inl u1.1)), (h2, .inl (cB, 512, .inl u1.2.1))] := hD
  refine lv_aload_n hx hb dL_law_227 rfl (lv_at hl 2 rfl) ?_
  refine lv_aload_n hx hb dL_law_228 rfl (lv_at hl 0 rfl) ?_
  refine lv_iload_n hx hb dL_law_229 rfl (lv_at hl 3 rfl) ?_
  refine lv_iconst (v := 1) hx hb dL_law_230 (by decide) ?_
  refine lv_iadd hx hb dL_law_231 ?_
  refine va_sld hx hb hX hbl hbA hS hi1 dL_law_232 ?_
  refine lv_aload_n hx hb dL_law_233 rfl (lv_at hl 0 rfl) ?_
  refine lv_iload_n hx hb dL_law_234 rfl (lv_at hl 3 rfl) ?_
  refine lv_iconst (v := 2) hx hb dL_law_235 (by decide) ?_
  refine lv_iadd hx hb dL_law_236 ?_
  refine va_sld hx hb hX hbl hbA hS hi2 dL_law_237 ?_
  have hPc := hP.sub (ws' := [(g0, .inr (1, [.int 0, .ref g1, .ref g2, .int u.2.2])), (g1, .inl (cC, 4096, .inl (fun jx => mb_sg (u.1 jx)))), (g2, .inl (cD, 512, .inl (fun jx => mb_sg (u.2.1 jx))))]) [0, 1, 2] rfl
  have hDc := hD.sub (ws' := [(g0, .inr (1, [.int 0, .ref g1, .ref g2, .int u.2.2])), (g1, .inl (cC, 4096, .inl (fun jx => mb_sg (u.1 jx)))), (g2, .inl (cD, 512, .inl (fun jx => mb_sg (u.2.1 jx))))]) [0, 1, 2] (by decide) rfl
  have hKc := hK.sub (tys' := [(cC, .byte), (cD, .byte)]) [2, 3] rfl
  have hFc := va_free (wc := [(g0, .inr (1, [.int 0, .ref g1, .ref g2, .int u.2.2])), (g1, .inl (cC, 4096, .inl (fun jx => mb_sg (u.1 jx)))), (g2, .inl (cD, 512, .inl (fun jx => mb_sg (u.2.1 jx))))]) hD hS hA [0, 1, 2] rfl
  refine va_calli (va_runV (As := [.int (xs ((nI i) + 1).toNatClampNeg), .int (xs ((nI i) + 2).toNatClampNeg)]) (rest := [.int r1]) ⟨hx, hb, hml, hown, hts⟩ (c_mdump l dC dI H.size g0 g1 g2 cC cD u (xs (nI i + 1).toNatClampNeg) (xs (nI i + 2).toNatClampNeg) hu) (cwV 2 hts gL_law_X1_dump rfl rfl rfl (by decide +kernel) ⟨Nat.le_of_ble_eq_true rfl, Nat.le_of_ble_eq_true rfl⟩) ⟨fun a U g mk q => by obtain ⟨q0, q1, qP, qK, qD⟩ := q; exact ⟨q0, q1, qP, va_K.moved (u := U) (U := U.calling g mk a) (Vm.Alike.refl U.vm) qK, qD⟩, va_recv hKc hPc (ci := 1) (q0 := 0) rfl rfl, fun U hU hW => ⟨rfl, by rw [hU], by rw [hU]; exact hPc, va_K.moved hW.alike hKc, hDc.weaken (fun _ _ _ _ => trivial)⟩⟩ rfl rfl hl.1 rfl (lv_room (Nat.le_of_ble_eq_true rfl)) dL_law_238 ⟨by decide +kernel, by decide +kernel⟩) hS (fun q _ h => hFc q h) hFc (fun r2 u2 t H1 locs ht hvm hw_u2 hB hz1 hk1 hS => ?_)
  obtain ⟨hP1, hK1, hD1⟩ := hB
  rw [ht] at hP1
  obtain ⟨hP, hD⟩ := va_join (wr := [(h0, .inr (0, [.ref h1, .ref h2, .int u1.2.2])), (h1, .inl (cA, 4096, .inl u1.1)), (h2, .inl (cB, 512, .inl u1.2.1))]) (w1 := [(g0, .inr (1, [.int 0, .ref g1, .ref g2, .int u2.2.2])), (g1, .inl (cC, 4096, .inl (fun jx => mb_sg (u2.1 jx)))), (g2, .inl (cD, 512, .inl (fun jx => mb_sg (u2.2.1 jx))))]) hP hD [0, 1, 2] [3, 4, 5] rfl rfl (by decide) (by decide) hk1 hFc hP1 hD1
  clear hPc hDc hFc hk1 hP1 hD1 ht
  generalize H1 = H at hP hS ⊢
  have hP : va_P (dC, dI) vwCl [(h0, .inr (0, [.ref h1, .ref h2, .int u1.2.2])), (h1, .inl (cA, 4096, .inl u1.1)), (h2, .inl (cB, 512, .inl u1.2.1)), (g0, .inr (1, [.int 0, .ref g1, .ref g2, .int u2.2.2])), (g1, .inl (cC, 4096, .inl (fun jx => mb_sg (u2.1 jx)))), (g2, .inl (cD, 512, .inl (fun jx => mb_sg (u2.2.1 jx))))] H := hP
  have hD : va_D (fun q : Nat => s.heap.size ≤ q) [(h0, .inr (0, [.ref h1, .ref h2, .int u1.2.2])), (h1, .inl (cA, 4096, .inl u1.1)), (h2, .inl (cB, 512, .inl u1.2.1)), (g0, .inr (1, [.int 0, .ref g1, .ref g2, .int u2.2.2])), (g1, .inl (cC, 4096, .inl (fun jx => mb_sg (u2.1 jx)))), (g2, .inl (cD, 512, .inl (fun jx => mb_sg (u2.2.1 jx))))] := hD
  obtain ⟨e1, e2⟩ := Prod.mk.inj (hw_u1.symm.trans hw_u2)
  subst e1
  subst e2
  have hu1 : mb_inv (mb_dump u (xs (nI i + 1).toNatClampNeg) (xs (nI i + 2).toNatClampNeg)).2 := mb_dump_inv hu (xs (nI i + 1).toNatClampNeg) (xs (nI i + 2).toNatClampNeg)
  rw [hw_u1] at hu1
  refine lv_icmp_eq (tgt := 338) hx hb dL_law_241 (by decide) (fun c1 => ?_) (fun c1 => ?_)
  · exact kk u1 _ _ ls hu1 hP hD hS hl
  · exact absurd rfl c1
set_option maxHeartbeats 2000000 in
set_option maxRecDepth 100000 in
/-- the law at check: both answer alike, and stand alike behind it -/
theorem lo_check {p : Program} {l : Launch} {e : Env} {s : State} {m : MethodId} {below : List Frame} {meth : Method} {c : Code} {dC : Nat → ClassId} {dI : Nat → Nat → Nat} {b L : Nat} {xs : Nat → Int32} (hL : L ≤ 2048) (C0 : lw_At p s m meth c b L xs) {h0 h1 h2 g0 g1 g2 : Nat} {cA cB cC cD : ClassId} (hK : va_K (dC, dI) vwCl [(cA, .int), (cB, .int), (cC, .byte), (cD, .byte)] s) {i : Nat} (hi : i + 4 ≤ L) (kk : ∀ (u : Bk_) (H : Heap) (locs : List Loc) (ls : Array Slot), mb_inv u → va_P (dC, dI) vwCl [(h0, .inr (0, [.ref h1, .ref h2, .int u.2.2])), (h1, .inl (cA, 4096, .inl u.1)), (h2, .inl (cB, 512, .inl u.2.1)), (g0, .inr (1, [.int 0, .ref g1, .ref g2, .int u.2.2])), (g1, .inl (cC, 4096, .inl (fun jx => mb_sg (u.1 jx)))), (g2, .inl (cD, 512, .inl (fun jx => mb_sg (u.2.1 jx))))] H → va_D (fun q : Nat => s.heap.size ≤ q) [(h0, .inr (0, [.ref h1, .ref h2, .int u.2.2])), (h1, .inl (cA, 4096, .inl u.1)), (h2, .inl (cB, 512, .inl u.2.1)), (g0, .inr (1, [.int 0, .ref g1, .ref g2, .int u.2.2])), (g1, .inl (cC, 4096, .inl (fun jx => mb_sg (u.1 jx)))), (g2, .inl (cD, 512, .inl (fun jx => mb_sg (u.2.1 jx))))] → va_S (fun q : Nat => s.heap.size ≤ q) s.heap H locs → lv_has ls 4 [(0, .ref b), (1, .ref h0), (2, .ref g0), (3, .int (nI i))] → W p l e room_1 s m #[Value.ref b] below meth c H locs 6 9223 (lw_Z below #[Value.ref b] s) (F0 m 338 ls [])) {u : Bk_} (hu : mb_inv u) {H : Heap} {locs : List Loc} (hP : va_P (dC, dI) vwCl [(h0, .inr (0, [.ref h1, .ref h2, .int u.2.2])), (h1, .inl (cA, 4096, .inl u.1)), (h2, .inl (cB, 512, .inl u.2.1)), (g0, .inr (1, [.int 0, .ref g1, .ref g2, .int u.2.2])), (g1, .inl (cC, 4096, .inl (fun jx => mb_sg (u.1 jx)))), (g2, .inl (cD, 512, .inl (fun jx => mb_sg (u.2.1 jx))))] H) (hD : va_D (fun q : Nat => s.heap.size ≤ q) [(h0, .inr (0, [.ref h1, .ref h2, .int u.2.2])), (h1, .inl (cA, 4096, .inl u.1)), (h2, .inl (cB, 512, .inl u.2.1)), (g0, .inr (1, [.int 0, .ref g1, .ref g2, .int u.2.2])), (g1, .inl (cC, 4096, .inl (fun jx => mb_sg (u.1 jx)))), (g2, .inl (cD, 512, .inl (fun jx => mb_sg (u.2.1 jx))))]) (hS : va_S (fun q : Nat => s.heap.size ≤ q) s.heap H locs) {ls : Array Slot} (hl : lv_has ls 4 [(0, .ref b), (1, .ref h0), (2, .ref g0), (3, .int (nI i))]) : W p l e room_1 s m #[Value.ref b] below meth c H locs 6 9223 (lw_Z below #[Value.ref b] s) (F0 m 246 ls []) := by
  obtain ⟨hx, hb, hr, hml, hown, hts, hX, hbl, hlocks, hgv⟩ := C0
  have hown : s.vm.findClass RL = some m.cls := hown
  have hts : ∀ w ∈ wsL_law, w.before #[Value.ref b] s = true := fun w h => hts w (wsL_law_in w h)
  have hA : ∀ q : Nat, s.heap.size ≤ q → (fun q : Nat => s.heap.size ≤ q) q := fun _ h => h
  have hbA : ¬ (fun q : Nat => s.heap.size ≤ q) b := Nat.not_le.mpr hbl
  have hi1 : vp_in (nI i + 1) L := by rw [show nI i + 1 = nI (i + 1) from nI_add i 1]; exact vp_in_nI (by omega) (by omega)
  have hi2 : vp_in (nI i + 2) L := by rw [show nI i + 2 = nI (i + 2) from nI_add i 2]; exact vp_in_nI (by omega) (by omega)
  have hi3 : vp_in (nI i + 3) L := by rw [show nI i + 3 = nI (i + 3) from nI_add i 3]; exact vp_in_nI (by omega) (by omega)
  refine lv_aload_n hx hb dL_law_246 rfl (lv_at hl 1 rfl) ?_
  refine lv_aload_n hx hb dL_law_247 rfl (lv_at hl 0 rfl) ?_
  refine lv_iload_n hx hb dL_law_248 rfl (lv_at hl 3 rfl) ?_
  refine lv_iconst (v := 1) hx hb dL_law_249 (by decide) ?_
  refine lv_iadd hx hb dL_law_250 ?_
  refine va_sld hx hb hX hbl hbA hS hi1 dL_law_251 ?_
  refine lv_aload_n hx hb dL_law_252 rfl (lv_at hl 0 rfl) ?_
  refine lv_iload_n hx hb dL_law_253 rfl (lv_at hl 3 rfl) ?_
  refine lv_iconst (v := 2) hx hb dL_law_254 (by decide) ?_
  refine lv_iadd hx hb dL_law_255 ?_
  refine va_sld hx hb hX hbl hbA hS hi2 dL_law_256 ?_
  have hPc := hP.sub (ws' := [(h0, .inr (0, [.ref h1, .ref h2, .int u.2.2])), (h1, .inl (cA, 4096, .inl u.1)), (h2, .inl (cB, 512, .inl u.2.1))]) [0, 1, 2] rfl
  have hDc := hD.sub (ws' := [(h0, .inr (0, [.ref h1, .ref h2, .int u.2.2])), (h1, .inl (cA, 4096, .inl u.1)), (h2, .inl (cB, 512, .inl u.2.1))]) [0, 1, 2] (by decide) rfl
  have hKc := hK.sub (tys' := [(cA, .int), (cB, .int)]) [0, 1] rfl
  have hFc := va_free (wc := [(h0, .inr (0, [.ref h1, .ref h2, .int u.2.2])), (h1, .inl (cA, 4096, .inl u.1)), (h2, .inl (cB, 512, .inl u.2.1))]) hD hS hA [0, 1, 2] rfl
  refine va_calli (va_runV (As := [.int (xs ((nI i) + 1).toNatClampNeg), .int (xs ((nI i) + 2).toNatClampNeg)]) (rest := []) ⟨hx, hb, hml, hown, hts⟩ (c_check l dC dI H.size h0 h1 h2 cA cB u (xs (nI i + 1).toNatClampNeg) (xs (nI i + 2).toNatClampNeg) hu.1) (cwV 2 hts gL_law_X0_check rfl rfl rfl (by decide +kernel) ⟨Nat.le_of_ble_eq_true rfl, Nat.le_of_ble_eq_true rfl⟩) ⟨fun a U g mk q => by obtain ⟨q0, q1, qP, qK, qD⟩ := q; exact ⟨q0, q1, qP, va_K.moved (u := U) (U := U.calling g mk a) (Vm.Alike.refl U.vm) qK, qD⟩, va_recv hKc hPc (ci := 0) (q0 := 0) rfl rfl, fun U hU hW => ⟨rfl, by rw [hU], by rw [hU]; exact hPc, va_K.moved hW.alike hKc, hDc.weaken (fun _ _ _ _ => trivial)⟩⟩ rfl rfl hl.1 rfl (lv_room (Nat.le_of_ble_eq_true rfl)) dL_law_257 ⟨by decide +kernel, by decide +kernel⟩) hS (fun q _ h => hFc q h) hFc (fun r1 u1 t H1 locs ht hvm hw_u1 hB hz1 hk1 hS => ?_)
  obtain ⟨hP1, hK1, hD1⟩ := hB
  rw [ht] at hP1
  obtain ⟨hP, hD⟩ := va_join (wr := [(g0, .inr (1, [.int 0, .ref g1, .ref g2, .int u.2.2])), (g1, .inl (cC, 4096, .inl (fun jx => mb_sg (u.1 jx)))), (g2, .inl (cD, 512, .inl (fun jx => mb_sg (u.2.1 jx))))]) (w1 := [(h0, .inr (0, [.ref h1, .ref h2, .int u1.2.2])), (h1, .inl (cA, 4096, .inl u1.1)), (h2, .inl (cB, 512, .inl u1.2.1))]) hP hD [0, 1, 2] [3, 4, 5] rfl rfl (by decide) (by decide) hk1 hFc hP1 hD1
  clear hPc hDc hFc hk1 hP1 hD1 ht
  generalize H1 = H at hP hS ⊢
  have hP : va_P (dC, dI) vwCl [(g0, .inr (1, [.int 0, .ref g1, .ref g2, .int u.2.2])), (g1, .inl (cC, 4096, .inl (fun jx => mb_sg (u.1 jx)))), (g2, .inl (cD, 512, .inl (fun jx => mb_sg (u.2.1 jx)))), (h0, .inr (0, [.ref h1, .ref h2, .int u1.2.2])), (h1, .inl (cA, 4096, .inl u1.1)), (h2, .inl (cB, 512, .inl u1.2.1))] H := hP
  have hD : va_D (fun q : Nat => s.heap.size ≤ q) [(g0, .inr (1, [.int 0, .ref g1, .ref g2, .int u.2.2])), (g1, .inl (cC, 4096, .inl (fun jx => mb_sg (u.1 jx)))), (g2, .inl (cD, 512, .inl (fun jx => mb_sg (u.2.1 jx)))), (h0, .inr (0, [.ref h1, .ref h2, .int u1.2.2])), (h1, .inl (cA, 4096, .inl u1.1)), (h2, .inl (cB, 512, .inl u1.2.1))] := hD
  refine lv_aload_n hx hb dL_law_260 rfl (lv_at hl 2 rfl) ?_
  refine lv_aload_n hx hb dL_law_261 rfl (lv_at hl 0 rfl) ?_
  refine lv_iload_n hx hb dL_law_262 rfl (lv_at hl 3 rfl) ?_
  refine lv_iconst (v := 1) hx hb dL_law_263 (by decide) ?_
  refine lv_iadd hx hb dL_law_264 ?_
  refine va_sld hx hb hX hbl hbA hS hi1 dL_law_265 ?_
  refine lv_aload_n hx hb dL_law_266 rfl (lv_at hl 0 rfl) ?_
  refine lv_iload_n hx hb dL_law_267 rfl (lv_at hl 3 rfl) ?_
  refine lv_iconst (v := 2) hx hb dL_law_268 (by decide) ?_
  refine lv_iadd hx hb dL_law_269 ?_
  refine va_sld hx hb hX hbl hbA hS hi2 dL_law_270 ?_
  have hPc := hP.sub (ws' := [(g0, .inr (1, [.int 0, .ref g1, .ref g2, .int u.2.2])), (g1, .inl (cC, 4096, .inl (fun jx => mb_sg (u.1 jx)))), (g2, .inl (cD, 512, .inl (fun jx => mb_sg (u.2.1 jx))))]) [0, 1, 2] rfl
  have hDc := hD.sub (ws' := [(g0, .inr (1, [.int 0, .ref g1, .ref g2, .int u.2.2])), (g1, .inl (cC, 4096, .inl (fun jx => mb_sg (u.1 jx)))), (g2, .inl (cD, 512, .inl (fun jx => mb_sg (u.2.1 jx))))]) [0, 1, 2] (by decide) rfl
  have hKc := hK.sub (tys' := [(cC, .byte), (cD, .byte)]) [2, 3] rfl
  have hFc := va_free (wc := [(g0, .inr (1, [.int 0, .ref g1, .ref g2, .int u.2.2])), (g1, .inl (cC, 4096, .inl (fun jx => mb_sg (u.1 jx)))), (g2, .inl (cD, 512, .inl (fun jx => mb_sg (u.2.1 jx))))]) hD hS hA [0, 1, 2] rfl
  refine va_calli (va_runV (As := [.int (xs ((nI i) + 1).toNatClampNeg), .int (xs ((nI i) + 2).toNatClampNeg)]) (rest := [.int r1]) ⟨hx, hb, hml, hown, hts⟩ (c_mcheck l dC dI H.size g0 g1 g2 cC cD u (xs (nI i + 1).toNatClampNeg) (xs (nI i + 2).toNatClampNeg) hu) (cwV 2 hts gL_law_X1_check rfl rfl rfl (by decide +kernel) ⟨Nat.le_of_ble_eq_true rfl, Nat.le_of_ble_eq_true rfl⟩) ⟨fun a U g mk q => by obtain ⟨q0, q1, qP, qK, qD⟩ := q; exact ⟨q0, q1, qP, va_K.moved (u := U) (U := U.calling g mk a) (Vm.Alike.refl U.vm) qK, qD⟩, va_recv hKc hPc (ci := 1) (q0 := 0) rfl rfl, fun U hU hW => ⟨rfl, by rw [hU], by rw [hU]; exact hPc, va_K.moved hW.alike hKc, hDc.weaken (fun _ _ _ _ => trivial)⟩⟩ rfl rfl hl.1 rfl (lv_room (Nat.le_of_ble_eq_true rfl)) dL_law_271 ⟨by decide +kernel, by decide +kernel⟩) hS (fun q _ h => hFc q h) hFc (fun r2 u2 t H1 locs ht hvm hw_u2 hB hz1 hk1 hS => ?_)
  obtain ⟨hP1, hK1, hD1⟩ := hB
  rw [ht] at hP1
  obtain ⟨hP, hD⟩ := va_join (wr := [(h0, .inr (0, [.ref h1, .ref h2, .int u1.2.2])), (h1, .inl (cA, 4096, .inl u1.1)), (h2, .inl (cB, 512, .inl u1.2.1))]) (w1 := [(g0, .inr (1, [.int 0, .ref g1, .ref g2, .int u2.2.2])), (g1, .inl (cC, 4096, .inl (fun jx => mb_sg (u2.1 jx)))), (g2, .inl (cD, 512, .inl (fun jx => mb_sg (u2.2.1 jx))))]) hP hD [0, 1, 2] [3, 4, 5] rfl rfl (by decide) (by decide) hk1 hFc hP1 hD1
  clear hPc hDc hFc hk1 hP1 hD1 ht
  generalize H1 = H at hP hS ⊢
  have hP : va_P (dC, dI) vwCl [(h0, .inr (0, [.ref h1, .ref h2, .int u1.2.2])), (h1, .inl (cA, 4096, .inl u1.1)), (h2, .inl (cB, 512, .inl u1.2.1)), (g0, .inr (1, [.int 0, .ref g1, .ref g2, .int u2.2.2])), (g1, .inl (cC, 4096, .inl (fun jx => mb_sg (u2.1 jx)))), (g2, .inl (cD, 512, .inl (fun jx => mb_sg (u2.2.1 jx))))] H := hP
  have hD : va_D (fun q : Nat => s.heap.size ≤ q) [(h0, .inr (0, [.ref h1, .ref h2, .int u1.2.2])), (h1, .inl (cA, 4096, .inl u1.1)), (h2, .inl (cB, 512, .inl u1.2.1)), (g0, .inr (1, [.int 0, .ref g1, .ref g2, .int u2.2.2])), (g1, .inl (cC, 4096, .inl (fun jx => mb_sg (u2.1 jx)))), (g2, .inl (cD, 512, .inl (fun jx => mb_sg (u2.2.1 jx))))] := hD
  obtain ⟨e1, e2⟩ := Prod.mk.inj (hw_u1.symm.trans hw_u2)
  subst e1
  subst e2
  have hu1 : mb_inv (mb_check u (xs (nI i + 1).toNatClampNeg) (xs (nI i + 2).toNatClampNeg)).2 := by unfold mb_check; exact mb_rd_inv hu
  rw [hw_u1] at hu1
  refine lv_icmp_eq (tgt := 338) hx hb dL_law_274 (by decide) (fun c1 => ?_) (fun c1 => ?_)
  · exact kk u1 _ _ ls hu1 hP hD hS hl
  · exact absurd rfl c1
set_option maxHeartbeats 2000000 in
set_option maxRecDepth 100000 in
/-- the law at rowCheck: both answer alike, and stand alike behind it -/
theorem lo_rowCheck {p : Program} {l : Launch} {e : Env} {s : State} {m : MethodId} {below : List Frame} {meth : Method} {c : Code} {dC : Nat → ClassId} {dI : Nat → Nat → Nat} {b L : Nat} {xs : Nat → Int32} (hL : L ≤ 2048) (C0 : lw_At p s m meth c b L xs) {h0 h1 h2 g0 g1 g2 : Nat} {cA cB cC cD : ClassId} (hK : va_K (dC, dI) vwCl [(cA, .int), (cB, .int), (cC, .byte), (cD, .byte)] s) {i : Nat} (hi : i + 4 ≤ L) (kk : ∀ (u : Bk_) (H : Heap) (locs : List Loc) (ls : Array Slot), mb_inv u → va_P (dC, dI) vwCl [(h0, .inr (0, [.ref h1, .ref h2, .int u.2.2])), (h1, .inl (cA, 4096, .inl u.1)), (h2, .inl (cB, 512, .inl u.2.1)), (g0, .inr (1, [.int 0, .ref g1, .ref g2, .int u.2.2])), (g1, .inl (cC, 4096, .inl (fun jx => mb_sg (u.1 jx)))), (g2, .inl (cD, 512, .inl (fun jx => mb_sg (u.2.1 jx))))] H → va_D (fun q : Nat => s.heap.size ≤ q) [(h0, .inr (0, [.ref h1, .ref h2, .int u.2.2])), (h1, .inl (cA, 4096, .inl u.1)), (h2, .inl (cB, 512, .inl u.2.1)), (g0, .inr (1, [.int 0, .ref g1, .ref g2, .int u.2.2])), (g1, .inl (cC, 4096, .inl (fun jx => mb_sg (u.1 jx)))), (g2, .inl (cD, 512, .inl (fun jx => mb_sg (u.2.1 jx))))] → va_S (fun q : Nat => s.heap.size ≤ q) s.heap H locs → lv_has ls 4 [(0, .ref b), (1, .ref h0), (2, .ref g0), (3, .int (nI i))] → W p l e room_1 s m #[Value.ref b] below meth c H locs 6 9223 (lw_Z below #[Value.ref b] s) (F0 m 338 ls [])) {u : Bk_} (hu : mb_inv u) {H : Heap} {locs : List Loc} (hP : va_P (dC, dI) vwCl [(h0, .inr (0, [.ref h1, .ref h2, .int u.2.2])), (h1, .inl (cA, 4096, .inl u.1)), (h2, .inl (cB, 512, .inl u.2.1)), (g0, .inr (1, [.int 0, .ref g1, .ref g2, .int u.2.2])), (g1, .inl (cC, 4096, .inl (fun jx => mb_sg (u.1 jx)))), (g2, .inl (cD, 512, .inl (fun jx => mb_sg (u.2.1 jx))))] H) (hD : va_D (fun q : Nat => s.heap.size ≤ q) [(h0, .inr (0, [.ref h1, .ref h2, .int u.2.2])), (h1, .inl (cA, 4096, .inl u.1)), (h2, .inl (cB, 512, .inl u.2.1)), (g0, .inr (1, [.int 0, .ref g1, .ref g2, .int u.2.2])), (g1, .inl (cC, 4096, .inl (fun jx => mb_sg (u.1 jx)))), (g2, .inl (cD, 512, .inl (fun jx => mb_sg (u.2.1 jx))))]) (hS : va_S (fun q : Nat => s.heap.size ≤ q) s.heap H locs) {ls : Array Slot} (hl : lv_has ls 4 [(0, .ref b), (1, .ref h0), (2, .ref g0), (3, .int (nI i))]) : W p l e room_1 s m #[Value.ref b] below meth c H locs 6 9223 (lw_Z below #[Value.ref b] s) (F0 m 279 ls []) := by
  obtain ⟨hx, hb, hr, hml, hown, hts, hX, hbl, hlocks, hgv⟩ := C0
  have hown : s.vm.findClass RL = some m.cls := hown
  have hts : ∀ w ∈ wsL_law, w.before #[Value.ref b] s = true := fun w h => hts w (wsL_law_in w h)
  have hA : ∀ q : Nat, s.heap.size ≤ q → (fun q : Nat => s.heap.size ≤ q) q := fun _ h => h
  have hbA : ¬ (fun q : Nat => s.heap.size ≤ q) b := Nat.not_le.mpr hbl
  have hi1 : vp_in (nI i + 1) L := by rw [show nI i + 1 = nI (i + 1) from nI_add i 1]; exact vp_in_nI (by omega) (by omega)
  have hi2 : vp_in (nI i + 2) L := by rw [show nI i + 2 = nI (i + 2) from nI_add i 2]; exact vp_in_nI (by omega) (by omega)
  have hi3 : vp_in (nI i + 3) L := by rw [show nI i + 3 = nI (i + 3) from nI_add i 3]; exact vp_in_nI (by omega) (by omega)
  refine lv_aload_n hx hb dL_law_279 rfl (lv_at hl 1 rfl) ?_
  refine lv_aload_n hx hb dL_law_280 rfl (lv_at hl 0 rfl) ?_
  refine lv_iload_n hx hb dL_law_281 rfl (lv_at hl 3 rfl) ?_
  refine lv_iconst (v := 1) hx hb dL_law_282 (by decide) ?_
  refine lv_iadd hx hb dL_law_283 ?_
  refine va_sld hx hb hX hbl hbA hS hi1 dL_law_284 ?_
  have hPc := hP.sub (ws' := [(h0, .inr (0, [.ref h1, .ref h2, .int u.2.2])), (h1, .inl (cA, 4096, .inl u.1)), (h2, .inl (cB, 512, .inl u.2.1))]) [0, 1, 2] rfl
  have hDc := hD.sub (ws' := [(h0, .inr (0, [.ref h1, .ref h2, .int u.2.2])), (h1, .inl (cA, 4096, .inl u.1)), (h2, .inl (cB, 512, .inl u.2.1))]) [0, 1, 2] (by decide) rfl
  have hKc := hK.sub (tys' := [(cA, .int), (cB, .int)]) [0, 1] rfl
  have hFc := va_free (wc := [(h0, .inr (0, [.ref h1, .ref h2, .int u.2.2])), (h1, .inl (cA, 4096, .inl u.1)), (h2, .inl (cB, 512, .inl u.2.1))]) hD hS hA [0, 1, 2] rfl
  refine va_calli (va_runV (As := [.int (xs ((nI i) + 1).toNatClampNeg)]) (rest := []) ⟨hx, hb, hml, hown, hts⟩ (c_rowCheck l dC dI H.size h0 h1 h2 cA cB u (xs (nI i + 1).toNatClampNeg) hu.1) (cwV 1 hts gL_law_X0_rowCheck rfl rfl rfl (by decide +kernel) ⟨Nat.le_of_ble_eq_true rfl, Nat.le_of_ble_eq_true rfl⟩) ⟨fun a U g mk q => by obtain ⟨q0, q1, qP, qK, qD⟩ := q; exact ⟨q0, q1, qP, va_K.moved (u := U) (U := U.calling g mk a) (Vm.Alike.refl U.vm) qK, qD⟩, va_recv hKc hPc (ci := 0) (q0 := 0) rfl rfl, fun U hU hW => ⟨rfl, by rw [hU], by rw [hU]; exact hPc, va_K.moved hW.alike hKc, hDc.weaken (fun _ _ _ _ => trivial)⟩⟩ rfl rfl hl.1 rfl (lv_room (Nat.le_of_ble_eq_true rfl)) dL_law_285 ⟨by decide +kernel, by decide +kernel⟩) hS (fun q _ h => hFc q h) hFc (fun r1 u1 t H1 locs ht hvm hw_u1 hB hz1 hk1 hS => ?_)
  obtain ⟨hP1, hK1, hD1⟩ := hB
  rw [ht] at hP1
  obtain ⟨hP, hD⟩ := va_join (wr := [(g0, .inr (1, [.int 0, .ref g1, .ref g2, .int u.2.2])), (g1, .inl (cC, 4096, .inl (fun jx => mb_sg (u.1 jx)))), (g2, .inl (cD, 512, .inl (fun jx => mb_sg (u.2.1 jx))))]) (w1 := [(h0, .inr (0, [.ref h1, .ref h2, .int u1.2.2])), (h1, .inl (cA, 4096, .inl u1.1)), (h2, .inl (cB, 512, .inl u1.2.1))]) hP hD [0, 1, 2] [3, 4, 5] rfl rfl (by decide) (by decide) hk1 hFc hP1 hD1
  clear hPc hDc hFc hk1 hP1 hD1 ht
  generalize H1 = H at hP hS ⊢
  have hP : va_P (dC, dI) vwCl [(g0, .inr (1, [.int 0, .ref g1, .ref g2, .int u.2.2])), (g1, .inl (cC, 4096, .inl (fun jx => mb_sg (u.1 jx)))), (g2, .inl (cD, 512, .inl (fun jx => mb_sg (u.2.1 jx)))), (h0, .inr (0, [.ref h1, .ref h2, .int u1.2.2])), (h1, .inl (cA, 4096, .inl u1.1)), (h2, .inl (cB, 512, .inl u1.2.1))] H := hP
  have hD : va_D (fun q : Nat => s.heap.size ≤ q) [(g0, .inr (1, [.int 0, .ref g1, .ref g2, .int u.2.2])), (g1, .inl (cC, 4096, .inl (fun jx => mb_sg (u.1 jx)))), (g2, .inl (cD, 512, .inl (fun jx => mb_sg (u.2.1 jx)))), (h0, .inr (0, [.ref h1, .ref h2, .int u1.2.2])), (h1, .inl (cA, 4096, .inl u1.1)), (h2, .inl (cB, 512, .inl u1.2.1))] := hD
  refine lv_aload_n hx hb dL_law_288 rfl (lv_at hl 2 rfl) ?_
  refine lv_aload_n hx hb dL_law_289 rfl (lv_at hl 0 rfl) ?_
  refine lv_iload_n hx hb dL_law_290 rfl (lv_at hl 3 rfl) ?_
  refine lv_iconst (v := 1) hx hb dL_law_291 (by decide) ?_
  refine lv_iadd hx hb dL_law_292 ?_
  refine va_sld hx hb hX hbl hbA hS hi1 dL_law_293 ?_
  have hPc := hP.sub (ws' := [(g0, .inr (1, [.int 0, .ref g1, .ref g2, .int u.2.2])), (g1, .inl (cC, 4096, .inl (fun jx => mb_sg (u.1 jx)))), (g2, .inl (cD, 512, .inl (fun jx => mb_sg (u.2.1 jx))))]) [0, 1, 2] rfl
  have hDc := hD.sub (ws' := [(g0, .inr (1, [.int 0, .ref g1, .ref g2, .int u.2.2])), (g1, .inl (cC, 4096, .inl (fun jx => mb_sg (u.1 jx)))), (g2, .inl (cD, 512, .inl (fun jx => mb_sg (u.2.1 jx))))]) [0, 1, 2] (by decide) rfl
  have hKc := hK.sub (tys' := [(cC, .byte), (cD, .byte)]) [2, 3] rfl
  have hFc := va_free (wc := [(g0, .inr (1, [.int 0, .ref g1, .ref g2, .int u.2.2])), (g1, .inl (cC, 4096, .inl (fun jx => mb_sg (u.1 jx)))), (g2, .inl (cD, 512, .inl (fun jx => mb_sg (u.2.1 jx))))]) hD hS hA [0, 1, 2] rfl
  refine va_calli (va_runV (As := [.int (xs ((nI i) + 1).toNatClampNeg)]) (rest := [.int r1]) ⟨hx, hb, hml, hown, hts⟩ (c_mrowCheck l dC dI H.size g0 g1 g2 cC cD u (xs (nI i + 1).toNatClampNeg) hu) (cwV 1 hts gL_law_X1_rowCheck rfl rfl rfl (by decide +kernel) ⟨Nat.le_of_ble_eq_true rfl, Nat.le_of_ble_eq_true rfl⟩) ⟨fun a U g mk q => by obtain ⟨q0, q1, qP, qK, qD⟩ := q; exact ⟨q0, q1, qP, va_K.moved (u := U) (U := U.calling g mk a) (Vm.Alike.refl U.vm) qK, qD⟩, va_recv hKc hPc (ci := 1) (q0 := 0) rfl rfl, fun U hU hW => ⟨rfl, by rw [hU], by rw [hU]; exact hPc, va_K.moved hW.alike hKc, hDc.weaken (fun _ _ _ _ => trivial)⟩⟩ rfl rfl hl.1 rfl (lv_room (Nat.le_of_ble_eq_true rfl)) dL_law_294 ⟨by decide +kernel, by decide +kernel⟩) hS (fun q _ h => hFc q h) hFc (fun r2 u2 t H1 locs ht hvm hw_u2 hB hz1 hk1 hS => ?_)
  obtain ⟨hP1, hK1, hD1⟩ := hB
  rw [ht] at hP1
  obtain ⟨hP, hD⟩ := va_join (wr := [(h0, .inr (0, [.ref h1, .ref h2, .int u1.2.2])), (h1, .inl (cA, 4096, .inl u1.1)), (h2, .inl (cB, 512, .inl u1.2.1))]) (w1 := [(g0, .inr (1, [.int 0, .ref g1, .ref g2, .int u2.2.2])), (g1, .inl (cC, 4096, .inl (fun jx => mb_sg (u2.1 jx)))), (g2, .inl (cD, 512, .inl (fun jx => mb_sg (u2.2.1 jx))))]) hP hD [0, 1, 2] [3, 4, 5] rfl rfl (by decide) (by decide) hk1 hFc hP1 hD1
  clear hPc hDc hFc hk1 hP1 hD1 ht
  generalize H1 = H at hP hS ⊢
  have hP : va_P (dC, dI) vwCl [(h0, .inr (0, [.ref h1, .ref h2, .int u1.2.2])), (h1, .inl (cA, 4096, .inl u1.1)), (h2, .inl (cB, 512, .inl u1.2.1)), (g0, .inr (1, [.int 0, .ref g1, .ref g2, .int u2.2.2])), (g1, .inl (cC, 4096, .inl (fun jx => mb_sg (u2.1 jx)))), (g2, .inl (cD, 512, .inl (fun jx => mb_sg (u2.2.1 jx))))] H := hP
  have hD : va_D (fun q : Nat => s.heap.size ≤ q) [(h0, .inr (0, [.ref h1, .ref h2, .int u1.2.2])), (h1, .inl (cA, 4096, .inl u1.1)), (h2, .inl (cB, 512, .inl u1.2.1)), (g0, .inr (1, [.int 0, .ref g1, .ref g2, .int u2.2.2])), (g1, .inl (cC, 4096, .inl (fun jx => mb_sg (u2.1 jx)))), (g2, .inl (cD, 512, .inl (fun jx => mb_sg (u2.2.1 jx))))] := hD
  obtain ⟨e1, e2⟩ := Prod.mk.inj (hw_u1.symm.trans hw_u2)
  subst e1
  subst e2
  have hu1 : mb_inv (mb_rowCheck u (xs (nI i + 1).toNatClampNeg)).2 := by unfold mb_rowCheck; exact mb_rd_inv hu
  rw [hw_u1] at hu1
  refine lv_icmp_eq (tgt := 338) hx hb dL_law_297 (by decide) (fun c1 => ?_) (fun c1 => ?_)
  · exact kk u1 _ _ ls hu1 hP hD hS hl
  · exact absurd rfl c1
set_option maxHeartbeats 2000000 in
set_option maxRecDepth 100000 in
/-- the law at seal: both answer alike, and stand alike behind it -/
theorem lo_seal {p : Program} {l : Launch} {e : Env} {s : State} {m : MethodId} {below : List Frame} {meth : Method} {c : Code} {dC : Nat → ClassId} {dI : Nat → Nat → Nat} {b L : Nat} {xs : Nat → Int32} (hL : L ≤ 2048) (C0 : lw_At p s m meth c b L xs) {h0 h1 h2 g0 g1 g2 : Nat} {cA cB cC cD : ClassId} (hK : va_K (dC, dI) vwCl [(cA, .int), (cB, .int), (cC, .byte), (cD, .byte)] s) {i : Nat} (hi : i + 4 ≤ L) (kk : ∀ (u : Bk_) (H : Heap) (locs : List Loc) (ls : Array Slot), mb_inv u → va_P (dC, dI) vwCl [(h0, .inr (0, [.ref h1, .ref h2, .int u.2.2])), (h1, .inl (cA, 4096, .inl u.1)), (h2, .inl (cB, 512, .inl u.2.1)), (g0, .inr (1, [.int 0, .ref g1, .ref g2, .int u.2.2])), (g1, .inl (cC, 4096, .inl (fun jx => mb_sg (u.1 jx)))), (g2, .inl (cD, 512, .inl (fun jx => mb_sg (u.2.1 jx))))] H → va_D (fun q : Nat => s.heap.size ≤ q) [(h0, .inr (0, [.ref h1, .ref h2, .int u.2.2])), (h1, .inl (cA, 4096, .inl u.1)), (h2, .inl (cB, 512, .inl u.2.1)), (g0, .inr (1, [.int 0, .ref g1, .ref g2, .int u.2.2])), (g1, .inl (cC, 4096, .inl (fun jx => mb_sg (u.1 jx)))), (g2, .inl (cD, 512, .inl (fun jx => mb_sg (u.2.1 jx))))] → va_S (fun q : Nat => s.heap.size ≤ q) s.heap H locs → lv_has ls 4 [(0, .ref b), (1, .ref h0), (2, .ref g0), (3, .int (nI i))] → W p l e room_1 s m #[Value.ref b] below meth c H locs 6 9223 (lw_Z below #[Value.ref b] s) (F0 m 338 ls [])) {u : Bk_} (hu : mb_inv u) {H : Heap} {locs : List Loc} (hP : va_P (dC, dI) vwCl [(h0, .inr (0, [.ref h1, .ref h2, .int u.2.2])), (h1, .inl (cA, 4096, .inl u.1)), (h2, .inl (cB, 512, .inl u.2.1)), (g0, .inr (1, [.int 0, .ref g1, .ref g2, .int u.2.2])), (g1, .inl (cC, 4096, .inl (fun jx => mb_sg (u.1 jx)))), (g2, .inl (cD, 512, .inl (fun jx => mb_sg (u.2.1 jx))))] H) (hD : va_D (fun q : Nat => s.heap.size ≤ q) [(h0, .inr (0, [.ref h1, .ref h2, .int u.2.2])), (h1, .inl (cA, 4096, .inl u.1)), (h2, .inl (cB, 512, .inl u.2.1)), (g0, .inr (1, [.int 0, .ref g1, .ref g2, .int u.2.2])), (g1, .inl (cC, 4096, .inl (fun jx => mb_sg (u.1 jx)))), (g2, .inl (cD, 512, .inl (fun jx => mb_sg (u.2.1 jx))))]) (hS : va_S (fun q : Nat => s.heap.size ≤ q) s.heap H locs) {ls : Array Slot} (hl : lv_has ls 4 [(0, .ref b), (1, .ref h0), (2, .ref g0), (3, .int (nI i))]) : W p l e room_1 s m #[Value.ref b] below meth c H locs 6 9223 (lw_Z below #[Value.ref b] s) (F0 m 302 ls []) := by
  obtain ⟨hx, hb, hr, hml, hown, hts, hX, hbl, hlocks, hgv⟩ := C0
  have hown : s.vm.findClass RL = some m.cls := hown
  have hts : ∀ w ∈ wsL_law, w.before #[Value.ref b] s = true := fun w h => hts w (wsL_law_in w h)
  have hA : ∀ q : Nat, s.heap.size ≤ q → (fun q : Nat => s.heap.size ≤ q) q := fun _ h => h
  have hbA : ¬ (fun q : Nat => s.heap.size ≤ q) b := Nat.not_le.mpr hbl
  have hi1 : vp_in (nI i + 1) L := by rw [show nI i + 1 = nI (i + 1) from nI_add i 1]; exact vp_in_nI (by omega) (by omega)
  have hi2 : vp_in (nI i + 2) L := by rw [show nI i + 2 = nI (i + 2) from nI_add i 2]; exact vp_in_nI (by omega) (by omega)
  have hi3 : vp_in (nI i + 3) L := by rw [show nI i + 3 = nI (i + 3) from nI_add i 3]; exact vp_in_nI (by omega) (by omega)
  refine lv_aload_n hx hb dL_law_302 rfl (lv_at hl 1 rfl) ?_
  have hPc := hP.sub (ws' := [(h0, .inr (0, [.ref h1, .ref h2, .int u.2.2])), (h1, .inl (cA, 4096, .inl u.1)), (h2, .inl (cB, 512, .inl u.2.1))]) [0, 1, 2] rfl
  have hDc := hD.sub (ws' := [(h0, .inr (0, [.ref h1, .ref h2, .int u.2.2])), (h1, .inl (cA, 4096, .inl u.1)), (h2, .inl (cB, 512, .inl u.2.1))]) [0, 1, 2] (by decide) rfl
  have hKc := hK.sub (tys' := [(cA, .int), (cB, .int)]) [0, 1] rfl
  have hFc := va_free (wc := [(h0, .inr (0, [.ref h1, .ref h2, .int u.2.2])), (h1, .inl (cA, 4096, .inl u.1)), (h2, .inl (cB, 512, .inl u.2.1))]) hD hS hA [0, 1, 2] rfl
  refine va_calli (va_runV (As := []) (rest := []) ⟨hx, hb, hml, hown, hts⟩ (c_seal l dC dI H.size h0 h1 h2 cA cB u  hu.1) (cwV 0 hts gL_law_X0_seal rfl rfl rfl (by decide +kernel) ⟨Nat.le_of_ble_eq_true rfl, Nat.le_of_ble_eq_true rfl⟩) ⟨fun a U g mk q => by obtain ⟨q0, q1, qP, qK, qD⟩ := q; exact ⟨q0, q1, qP, va_K.moved (u := U) (U := U.calling g mk a) (Vm.Alike.refl U.vm) qK, qD⟩, va_recv hKc hPc (ci := 0) (q0 := 0) rfl rfl, fun U hU hW => ⟨rfl, by rw [hU], by rw [hU]; exact hPc, va_K.moved hW.alike hKc, hDc.weaken (fun _ _ _ _ => trivial)⟩⟩ rfl rfl hl.1 rfl (lv_room (Nat.le_of_ble_eq_true rfl)) dL_law_303 ⟨by decide +kernel, by decide +kernel⟩) hS (fun q _ h => hFc q h) hFc (fun r1 u1 t H1 locs ht hvm hw_u1 hB hz1 hk1 hS => ?_)
  obtain ⟨hP1, hK1, hD1⟩ := hB
  rw [ht] at hP1
  obtain ⟨hP, hD⟩ := va_join (wr := [(g0, .inr (1, [.int 0, .ref g1, .ref g2, .int u.2.2])), (g1, .inl (cC, 4096, .inl (fun jx => mb_sg (u.1 jx)))), (g2, .inl (cD, 512, .inl (fun jx => mb_sg (u.2.1 jx))))]) (w1 := [(h0, .inr (0, [.ref h1, .ref h2, .int u1.2.2])), (h1, .inl (cA, 4096, .inl u1.1)), (h2, .inl (cB, 512, .inl u1.2.1))]) hP hD [0, 1, 2] [3, 4, 5] rfl rfl (by decide) (by decide) hk1 hFc hP1 hD1
  clear hPc hDc hFc hk1 hP1 hD1 ht
  generalize H1 = H at hP hS ⊢
  have hP : va_P (dC, dI) vwCl [(g0, .inr (1, [.int 0, .ref g1, .ref g2, .int u.2.2])), (g1, .inl (cC, 4096, .inl (fun jx => mb_sg (u.1 jx)))), (g2, .inl (cD, 512, .inl (fun jx => mb_sg (u.2.1 jx)))), (h0, .inr (0, [.ref h1, .ref h2, .int u1.2.2])), (h1, .inl (cA, 4096, .inl u1.1)), (h2, .inl (cB, 512, .inl u1.2.1))] H := hP
  have hD : va_D (fun q : Nat => s.heap.size ≤ q) [(g0, .inr (1, [.int 0, .ref g1, .ref g2, .int u.2.2])), (g1, .inl (cC, 4096, .inl (fun jx => mb_sg (u.1 jx)))), (g2, .inl (cD, 512, .inl (fun jx => mb_sg (u.2.1 jx)))), (h0, .inr (0, [.ref h1, .ref h2, .int u1.2.2])), (h1, .inl (cA, 4096, .inl u1.1)), (h2, .inl (cB, 512, .inl u1.2.1))] := hD
  refine lv_aload_n hx hb dL_law_306 rfl (lv_at hl 2 rfl) ?_
  have hPc := hP.sub (ws' := [(g0, .inr (1, [.int 0, .ref g1, .ref g2, .int u.2.2])), (g1, .inl (cC, 4096, .inl (fun jx => mb_sg (u.1 jx)))), (g2, .inl (cD, 512, .inl (fun jx => mb_sg (u.2.1 jx))))]) [0, 1, 2] rfl
  have hDc := hD.sub (ws' := [(g0, .inr (1, [.int 0, .ref g1, .ref g2, .int u.2.2])), (g1, .inl (cC, 4096, .inl (fun jx => mb_sg (u.1 jx)))), (g2, .inl (cD, 512, .inl (fun jx => mb_sg (u.2.1 jx))))]) [0, 1, 2] (by decide) rfl
  have hKc := hK.sub (tys' := [(cC, .byte), (cD, .byte)]) [2, 3] rfl
  have hFc := va_free (wc := [(g0, .inr (1, [.int 0, .ref g1, .ref g2, .int u.2.2])), (g1, .inl (cC, 4096, .inl (fun jx => mb_sg (u.1 jx)))), (g2, .inl (cD, 512, .inl (fun jx => mb_sg (u.2.1 jx))))]) hD hS hA [0, 1, 2] rfl
  refine va_calli (va_runV (As := []) (rest := [.int r1]) ⟨hx, hb, hml, hown, hts⟩ (c_mseal l dC dI H.size g0 g1 g2 cC cD u  hu) (cwV 0 hts gL_law_X1_seal rfl rfl rfl (by decide +kernel) ⟨Nat.le_of_ble_eq_true rfl, Nat.le_of_ble_eq_true rfl⟩) ⟨fun a U g mk q => by obtain ⟨q0, q1, qP, qK, qD⟩ := q; exact ⟨q0, q1, qP, va_K.moved (u := U) (U := U.calling g mk a) (Vm.Alike.refl U.vm) qK, qD⟩, va_recv hKc hPc (ci := 1) (q0 := 0) rfl rfl, fun U hU hW => ⟨rfl, by rw [hU], by rw [hU]; exact hPc, va_K.moved hW.alike hKc, hDc.weaken (fun _ _ _ _ => trivial)⟩⟩ rfl rfl hl.1 rfl (lv_room (Nat.le_of_ble_eq_true rfl)) dL_law_307 ⟨by decide +kernel, by decide +kernel⟩) hS (fun q _ h => hFc q h) hFc (fun r2 u2 t H1 locs ht hvm hw_u2 hB hz1 hk1 hS => ?_)
  obtain ⟨hP1, hK1, hD1⟩ := hB
  rw [ht] at hP1
  obtain ⟨hP, hD⟩ := va_join (wr := [(h0, .inr (0, [.ref h1, .ref h2, .int u1.2.2])), (h1, .inl (cA, 4096, .inl u1.1)), (h2, .inl (cB, 512, .inl u1.2.1))]) (w1 := [(g0, .inr (1, [.int 0, .ref g1, .ref g2, .int u2.2.2])), (g1, .inl (cC, 4096, .inl (fun jx => mb_sg (u2.1 jx)))), (g2, .inl (cD, 512, .inl (fun jx => mb_sg (u2.2.1 jx))))]) hP hD [0, 1, 2] [3, 4, 5] rfl rfl (by decide) (by decide) hk1 hFc hP1 hD1
  clear hPc hDc hFc hk1 hP1 hD1 ht
  generalize H1 = H at hP hS ⊢
  have hP : va_P (dC, dI) vwCl [(h0, .inr (0, [.ref h1, .ref h2, .int u1.2.2])), (h1, .inl (cA, 4096, .inl u1.1)), (h2, .inl (cB, 512, .inl u1.2.1)), (g0, .inr (1, [.int 0, .ref g1, .ref g2, .int u2.2.2])), (g1, .inl (cC, 4096, .inl (fun jx => mb_sg (u2.1 jx)))), (g2, .inl (cD, 512, .inl (fun jx => mb_sg (u2.2.1 jx))))] H := hP
  have hD : va_D (fun q : Nat => s.heap.size ≤ q) [(h0, .inr (0, [.ref h1, .ref h2, .int u1.2.2])), (h1, .inl (cA, 4096, .inl u1.1)), (h2, .inl (cB, 512, .inl u1.2.1)), (g0, .inr (1, [.int 0, .ref g1, .ref g2, .int u2.2.2])), (g1, .inl (cC, 4096, .inl (fun jx => mb_sg (u2.1 jx)))), (g2, .inl (cD, 512, .inl (fun jx => mb_sg (u2.2.1 jx))))] := hD
  obtain ⟨e1, e2⟩ := Prod.mk.inj (hw_u1.symm.trans hw_u2)
  subst e1
  subst e2
  have hu1 : mb_inv (mb_seal u ).2 := mb_seal_inv hu 
  rw [hw_u1] at hu1
  refine lv_icmp_eq (tgt := 338) hx hb dL_law_310 (by decide) (fun c1 => ?_) (fun c1 => ?_)
  · exact kk u1 _ _ ls hu1 hP hD hS hl
  · exact absurd rfl c1
set_option maxHeartbeats 2000000 in
set_option maxRecDepth 100000 in
/-- the law at at: both answer alike, and stand alike behind it -/
theorem lo_at {p : Program} {l : Launch} {e : Env} {s : State} {m : MethodId} {below : List Frame} {meth : Method} {c : Code} {dC : Nat → ClassId} {dI : Nat → Nat → Nat} {b L : Nat} {xs : Nat → Int32} (hL : L ≤ 2048) (C0 : lw_At p s m meth c b L xs) {h0 h1 h2 g0 g1 g2 : Nat} {cA cB cC cD : ClassId} (hK : va_K (dC, dI) vwCl [(cA, .int), (cB, .int), (cC, .byte), (cD, .byte)] s) {i : Nat} (hi : i + 4 ≤ L) (kk : ∀ (u : Bk_) (H : Heap) (locs : List Loc) (ls : Array Slot), mb_inv u → va_P (dC, dI) vwCl [(h0, .inr (0, [.ref h1, .ref h2, .int u.2.2])), (h1, .inl (cA, 4096, .inl u.1)), (h2, .inl (cB, 512, .inl u.2.1)), (g0, .inr (1, [.int 0, .ref g1, .ref g2, .int u.2.2])), (g1, .inl (cC, 4096, .inl (fun jx => mb_sg (u.1 jx)))), (g2, .inl (cD, 512, .inl (fun jx => mb_sg (u.2.1 jx))))] H → va_D (fun q : Nat => s.heap.size ≤ q) [(h0, .inr (0, [.ref h1, .ref h2, .int u.2.2])), (h1, .inl (cA, 4096, .inl u.1)), (h2, .inl (cB, 512, .inl u.2.1)), (g0, .inr (1, [.int 0, .ref g1, .ref g2, .int u.2.2])), (g1, .inl (cC, 4096, .inl (fun jx => mb_sg (u.1 jx)))), (g2, .inl (cD, 512, .inl (fun jx => mb_sg (u.2.1 jx))))] → va_S (fun q : Nat => s.heap.size ≤ q) s.heap H locs → lv_has ls 4 [(0, .ref b), (1, .ref h0), (2, .ref g0), (3, .int (nI i))] → W p l e room_1 s m #[Value.ref b] below meth c H locs 6 9223 (lw_Z below #[Value.ref b] s) (F0 m 338 ls [])) {u : Bk_} (hu : mb_inv u) {H : Heap} {locs : List Loc} (hP : va_P (dC, dI) vwCl [(h0, .inr (0, [.ref h1, .ref h2, .int u.2.2])), (h1, .inl (cA, 4096, .inl u.1)), (h2, .inl (cB, 512, .inl u.2.1)), (g0, .inr (1, [.int 0, .ref g1, .ref g2, .int u.2.2])), (g1, .inl (cC, 4096, .inl (fun jx => mb_sg (u.1 jx)))), (g2, .inl (cD, 512, .inl (fun jx => mb_sg (u.2.1 jx))))] H) (hD : va_D (fun q : Nat => s.heap.size ≤ q) [(h0, .inr (0, [.ref h1, .ref h2, .int u.2.2])), (h1, .inl (cA, 4096, .inl u.1)), (h2, .inl (cB, 512, .inl u.2.1)), (g0, .inr (1, [.int 0, .ref g1, .ref g2, .int u.2.2])), (g1, .inl (cC, 4096, .inl (fun jx => mb_sg (u.1 jx)))), (g2, .inl (cD, 512, .inl (fun jx => mb_sg (u.2.1 jx))))]) (hS : va_S (fun q : Nat => s.heap.size ≤ q) s.heap H locs) {ls : Array Slot} (hl : lv_has ls 4 [(0, .ref b), (1, .ref h0), (2, .ref g0), (3, .int (nI i))]) : W p l e room_1 s m #[Value.ref b] below meth c H locs 6 9223 (lw_Z below #[Value.ref b] s) (F0 m 315 ls []) := by
  obtain ⟨hx, hb, hr, hml, hown, hts, hX, hbl, hlocks, hgv⟩ := C0
  have hown : s.vm.findClass RL = some m.cls := hown
  have hts : ∀ w ∈ wsL_law, w.before #[Value.ref b] s = true := fun w h => hts w (wsL_law_in w h)
  have hA : ∀ q : Nat, s.heap.size ≤ q → (fun q : Nat => s.heap.size ≤ q) q := fun _ h => h
  have hbA : ¬ (fun q : Nat => s.heap.size ≤ q) b := Nat.not_le.mpr hbl
  have hi1 : vp_in (nI i + 1) L := by rw [show nI i + 1 = nI (i + 1) from nI_add i 1]; exact vp_in_nI (by omega) (by omega)
  have hi2 : vp_in (nI i + 2) L := by rw [show nI i + 2 = nI (i + 2) from nI_add i 2]; exact vp_in_nI (by omega) (by omega)
  have hi3 : vp_in (nI i + 3) L := by rw [show nI i + 3 = nI (i + 3) from nI_add i 3]; exact vp_in_nI (by omega) (by omega)
  refine lv_aload_n hx hb dL_law_315 rfl (lv_at hl 1 rfl) ?_
  refine lv_aload_n hx hb dL_law_316 rfl (lv_at hl 0 rfl) ?_
  refine lv_iload_n hx hb dL_law_317 rfl (lv_at hl 3 rfl) ?_
  refine lv_iconst (v := 1) hx hb dL_law_318 (by decide) ?_
  refine lv_iadd hx hb dL_law_319 ?_
  refine va_sld hx hb hX hbl hbA hS hi1 dL_law_320 ?_
  have hPc := hP.sub (ws' := [(h0, .inr (0, [.ref h1, .ref h2, .int u.2.2])), (h1, .inl (cA, 4096, .inl u.1)), (h2, .inl (cB, 512, .inl u.2.1))]) [0, 1, 2] rfl
  have hDc := hD.sub (ws' := [(h0, .inr (0, [.ref h1, .ref h2, .int u.2.2])), (h1, .inl (cA, 4096, .inl u.1)), (h2, .inl (cB, 512, .inl u.2.1))]) [0, 1, 2] (by decide) rfl
  have hKc := hK.sub (tys' := [(cA, .int), (cB, .int)]) [0, 1] rfl
  have hFc := va_free (wc := [(h0, .inr (0, [.ref h1, .ref h2, .int u.2.2])), (h1, .inl (cA, 4096, .inl u.1)), (h2, .inl (cB, 512, .inl u.2.1))]) hD hS hA [0, 1, 2] rfl
  refine va_calli (va_runV (As := [.int (xs ((nI i) + 1).toNatClampNeg)]) (rest := []) ⟨hx, hb, hml, hown, hts⟩ (c_at l dC dI H.size h0 h1 h2 cA cB u (xs (nI i + 1).toNatClampNeg) hu.1) (cwV 1 hts gL_law_X0_at rfl rfl rfl (by decide +kernel) ⟨Nat.le_of_ble_eq_true rfl, Nat.le_of_ble_eq_true rfl⟩) ⟨fun a U g mk q => by obtain ⟨q0, q1, qP, qK, qD⟩ := q; exact ⟨q0, q1, qP, va_K.moved (u := U) (U := U.calling g mk a) (Vm.Alike.refl U.vm) qK, qD⟩, va_recv hKc hPc (ci := 0) (q0 := 0) rfl rfl, fun U hU hW => ⟨rfl, by rw [hU], by rw [hU]; exact hPc, va_K.moved hW.alike hKc, hDc.weaken (fun _ _ _ _ => trivial)⟩⟩ rfl rfl hl.1 rfl (lv_room (Nat.le_of_ble_eq_true rfl)) dL_law_321 ⟨by decide +kernel, by decide +kernel⟩) hS (fun q _ h => hFc q h) hFc (fun r1 u1 t H1 locs ht hvm hw_u1 hB hz1 hk1 hS => ?_)
  obtain ⟨hP1, hK1, hD1⟩ := hB
  rw [ht] at hP1
  obtain ⟨hP, hD⟩ := va_join (wr := [(g0, .inr (1, [.int 0, .ref g1, .ref g2, .int u.2.2])), (g1, .inl (cC, 4096, .inl (fun jx => mb_sg (u.1 jx)))), (g2, .inl (cD, 512, .inl (fun jx => mb_sg (u.2.1 jx))))]) (w1 := [(h0, .inr (0, [.ref h1, .ref h2, .int u1.2.2])), (h1, .inl (cA, 4096, .inl u1.1)), (h2, .inl (cB, 512, .inl u1.2.1))]) hP hD [0, 1, 2] [3, 4, 5] rfl rfl (by decide) (by decide) hk1 hFc hP1 hD1
  clear hPc hDc hFc hk1 hP1 hD1 ht
  generalize H1 = H at hP hS ⊢
  have hP : va_P (dC, dI) vwCl [(g0, .inr (1, [.int 0, .ref g1, .ref g2, .int u.2.2])), (g1, .inl (cC, 4096, .inl (fun jx => mb_sg (u.1 jx)))), (g2, .inl (cD, 512, .inl (fun jx => mb_sg (u.2.1 jx)))), (h0, .inr (0, [.ref h1, .ref h2, .int u1.2.2])), (h1, .inl (cA, 4096, .inl u1.1)), (h2, .inl (cB, 512, .inl u1.2.1))] H := hP
  have hD : va_D (fun q : Nat => s.heap.size ≤ q) [(g0, .inr (1, [.int 0, .ref g1, .ref g2, .int u.2.2])), (g1, .inl (cC, 4096, .inl (fun jx => mb_sg (u.1 jx)))), (g2, .inl (cD, 512, .inl (fun jx => mb_sg (u.2.1 jx)))), (h0, .inr (0, [.ref h1, .ref h2, .int u1.2.2])), (h1, .inl (cA, 4096, .inl u1.1)), (h2, .inl (cB, 512, .inl u1.2.1))] := hD
  refine lv_aload_n hx hb dL_law_324 rfl (lv_at hl 2 rfl) ?_
  refine lv_aload_n hx hb dL_law_325 rfl (lv_at hl 0 rfl) ?_
  refine lv_iload_n hx hb dL_law_326 rfl (lv_at hl 3 rfl) ?_
  refine lv_iconst (v := 1) hx hb dL_law_327 (by decide) ?_
  refine lv_iadd hx hb dL_law_328 ?_
  refine va_sld hx hb hX hbl hbA hS hi1 dL_law_329 ?_
  have hPc := hP.sub (ws' := [(g0, .inr (1, [.int 0, .ref g1, .ref g2, .int u.2.2])), (g1, .inl (cC, 4096, .inl (fun jx => mb_sg (u.1 jx)))), (g2, .inl (cD, 512, .inl (fun jx => mb_sg (u.2.1 jx))))]) [0, 1, 2] rfl
  have hDc := hD.sub (ws' := [(g0, .inr (1, [.int 0, .ref g1, .ref g2, .int u.2.2])), (g1, .inl (cC, 4096, .inl (fun jx => mb_sg (u.1 jx)))), (g2, .inl (cD, 512, .inl (fun jx => mb_sg (u.2.1 jx))))]) [0, 1, 2] (by decide) rfl
  have hKc := hK.sub (tys' := [(cC, .byte), (cD, .byte)]) [2, 3] rfl
  have hFc := va_free (wc := [(g0, .inr (1, [.int 0, .ref g1, .ref g2, .int u.2.2])), (g1, .inl (cC, 4096, .inl (fun jx => mb_sg (u.1 jx)))), (g2, .inl (cD, 512, .inl (fun jx => mb_sg (u.2.1 jx))))]) hD hS hA [0, 1, 2] rfl
  refine va_calli (va_runV (As := [.int (xs ((nI i) + 1).toNatClampNeg)]) (rest := [.int r1]) ⟨hx, hb, hml, hown, hts⟩ (c_mat l dC dI H.size g0 g1 g2 cC cD u (xs (nI i + 1).toNatClampNeg) hu) (cwV 1 hts gL_law_X1_at rfl rfl rfl (by decide +kernel) ⟨Nat.le_of_ble_eq_true rfl, Nat.le_of_ble_eq_true rfl⟩) ⟨fun a U g mk q => by obtain ⟨q0, q1, qP, qK, qD⟩ := q; exact ⟨q0, q1, qP, va_K.moved (u := U) (U := U.calling g mk a) (Vm.Alike.refl U.vm) qK, qD⟩, va_recv hKc hPc (ci := 1) (q0 := 0) rfl rfl, fun U hU hW => ⟨rfl, by rw [hU], by rw [hU]; exact hPc, va_K.moved hW.alike hKc, hDc.weaken (fun _ _ _ _ => trivial)⟩⟩ rfl rfl hl.1 rfl (lv_room (Nat.le_of_ble_eq_true rfl)) dL_law_330 ⟨by decide +kernel, by decide +kernel⟩) hS (fun q _ h => hFc q h) hFc (fun r2 u2 t H1 locs ht hvm hw_u2 hB hz1 hk1 hS => ?_)
  obtain ⟨hP1, hK1, hD1⟩ := hB
  rw [ht] at hP1
  obtain ⟨hP, hD⟩ := va_join (wr := [(h0, .inr (0, [.ref h1, .ref h2, .int u1.2.2])), (h1, .inl (cA, 4096, .inl u1.1)), (h2, .inl (cB, 512, .inl u1.2.1))]) (w1 := [(g0, .inr (1, [.int 0, .ref g1, .ref g2, .int u2.2.2])), (g1, .inl (cC, 4096, .inl (fun jx => mb_sg (u2.1 jx)))), (g2, .inl (cD, 512, .inl (fun jx => mb_sg (u2.2.1 jx))))]) hP hD [0, 1, 2] [3, 4, 5] rfl rfl (by decide) (by decide) hk1 hFc hP1 hD1
  clear hPc hDc hFc hk1 hP1 hD1 ht
  generalize H1 = H at hP hS ⊢
  have hP : va_P (dC, dI) vwCl [(h0, .inr (0, [.ref h1, .ref h2, .int u1.2.2])), (h1, .inl (cA, 4096, .inl u1.1)), (h2, .inl (cB, 512, .inl u1.2.1)), (g0, .inr (1, [.int 0, .ref g1, .ref g2, .int u2.2.2])), (g1, .inl (cC, 4096, .inl (fun jx => mb_sg (u2.1 jx)))), (g2, .inl (cD, 512, .inl (fun jx => mb_sg (u2.2.1 jx))))] H := hP
  have hD : va_D (fun q : Nat => s.heap.size ≤ q) [(h0, .inr (0, [.ref h1, .ref h2, .int u1.2.2])), (h1, .inl (cA, 4096, .inl u1.1)), (h2, .inl (cB, 512, .inl u1.2.1)), (g0, .inr (1, [.int 0, .ref g1, .ref g2, .int u2.2.2])), (g1, .inl (cC, 4096, .inl (fun jx => mb_sg (u2.1 jx)))), (g2, .inl (cD, 512, .inl (fun jx => mb_sg (u2.2.1 jx))))] := hD
  obtain ⟨e1, e2⟩ := Prod.mk.inj (hw_u1.symm.trans hw_u2)
  subst e1
  subst e2
  have hu1 : mb_inv (mb_at u (xs (nI i + 1).toNatClampNeg)).2 := by unfold mb_at; exact mb_rd_inv hu
  rw [hw_u1] at hu1
  refine lv_icmp_eq (tgt := 338) hx hb dL_law_333 (by decide) (fun c1 => ?_) (fun c1 => ?_)
  · exact kk u1 _ _ ls hu1 hP hD hS hl
  · exact absurd rfl c1
