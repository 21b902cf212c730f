/-! the reference holds the same bytes as signed ones; its check goes bit by bit. Here: both checks are one number. -/
def mb_sg (x : Int32) : Int32 := x.toInt8.toInt32
def mb_B (x : Int32) : Prop := ∃ b : Nat, b < 256 ∧ x = nI b
def mb_inv (u : Bk_) : Prop := mb_ok u ∧ (∀ j, mb_B (u.1 j)) ∧ (∀ j, mb_B (u.2.1 j))
theorem mb_sg255 {x : Int32} (h : mb_B x) : mb_sg x &&& 255 = x := by
  obtain ⟨b, hb, rfl⟩ := h
  exact (sb_byte b hb).1
theorem mb_sgand (x : Int32) : mb_sg (x &&& 255) = x.toInt8.toInt32 := by
  unfold mb_sg
  rw [Int32.toInt8_and, show (255 : Int32).toInt8 = -1 from by decide, Int8.and_neg_one]
theorem mb_B255 (x : Int32) : mb_B (x &&& 255) := by
  obtain ⟨j, hj, e⟩ := pk_andE x (m := 255) 8 (by decide)
  exact ⟨j, hj, e⟩
theorem mb_B0 : mb_B 0 := ⟨0, by decide, rfl⟩
theorem mb_nar (x : Int32) : vp_nar .byte (mb_sg x) = mb_sg x := pk_vb x
theorem mb_sgupd (f : Nat → Int32) (k : Nat) (x : Int32) : upd (fun j => mb_sg (f j)) k (mb_sg x) = fun j => mb_sg (upd f k x j) := by
  funext j
  unfold upd
  by_cases h : j = k
  · rw [if_pos h, if_pos h]
  · rw [if_neg h, if_neg h]
theorem mb_cpy1 (f g : Nat → Int32) (a b n : Nat) : upd (va_cpy f g a b n) (b + n) (f (a + n)) = va_cpy f g a b (n + 1) := by
  funext j
  unfold upd va_cpy
  by_cases h : j = b + n
  · rw [if_pos h, if_pos (by omega), h]
    congr 1
    omega
  · rw [if_neg h]
    by_cases h2 : b ≤ j ∧ j < b + n
    · rw [if_pos h2, if_pos (by omega)]
    · rw [if_neg h2, if_neg (by omega)]
theorem mb_cpy0 (f g : Nat → Int32) (a b : Nat) : va_cpy f g a b 0 = g := by
  funext j
  unfold va_cpy
  rw [if_neg (by omega)]
theorem mx_xor (a b : Nat) : nI a ^^^ nI b = nI (a ^^^ b) := by
  apply Int32.toBitVec_inj.1
  show BitVec.ofNat 32 a ^^^ BitVec.ofNat 32 b = BitVec.ofNat 32 (a ^^^ b)
  apply BitVec.eq_of_getLsbD_eq
  intro i hi
  simp [hi]
def mb_D (v : Nat) : Nat := if 2 * v < 65536 then 2 * v else (2 * v) ^^^ 69665
def mb_E (w t : Nat) : Nat := if (w / 32768) ^^^ t = 1 then (2 * w % 65536) ^^^ 4129 else 2 * w % 65536
def mb_bit (b r : Nat) : Nat := b / 2 ^ (7 - r) % 2
theorem mb_dblN {v : Nat} (h : v < 65536) : mb_dbl (nI v) = nI (mb_D v) := by
  unfold mb_dbl mb_D
  have e : nI v * 2 = nI (2 * v) := by rw [Nat.mul_comm 2 v]; exact pk_mul v 2
  rw [e]
  by_cases h2 : 2 * v < 65536
  · have h3 : nI (2 * v) < 65536 := (nI_ltI (b := 65536) (by omega) (by omega)).mpr h2
    rw [if_pos h2, if_pos h3]
  · have h3 : ¬ nI (2 * v) < 65536 := fun q => h2 ((nI_ltI (b := 65536) (by omega) (by omega)).mp q)
    rw [if_neg h2, if_neg h3]
    exact mx_xor (2 * v) 69665
theorem mb_lowP : ∀ i, i < 16 → Nat.testBit 69665 i = Nat.testBit 4129 i := by decide
theorem mb_Dx {v : Nat} (h : v < 65536) : mb_D v = (2 * v % 65536) ^^^ (if v / 32768 = 1 then 4129 else 0) := by
  unfold mb_D
  by_cases h2 : 2 * v < 65536
  · rw [if_pos h2, if_neg (by omega), Nat.mod_eq_of_lt h2, Nat.xor_zero]
  · rw [if_neg h2, if_pos (by omega)]
    apply Nat.eq_of_testBit_eq
    intro i
    rw [Nat.testBit_xor, Nat.testBit_xor, show 2 * v % 65536 = 2 * v % 2 ^ 16 from rfl, Nat.testBit_mod_two_pow]
    rcases Nat.lt_or_ge i 16 with hi | hi
    · rw [mb_lowP i hi]
      simp [hi]
    · rcases Nat.lt_or_ge 16 i with h3 | h3
      · have p1 : 2 ^ 17 ≤ 2 ^ i := Nat.pow_le_pow_right (by decide) h3
        rw [Nat.testBit_lt_two_pow (x := 2 * v) (i := i) (by omega), Nat.testBit_lt_two_pow (x := 69665) (i := i) (by omega), Nat.testBit_lt_two_pow (x := 4129) (i := i) (by omega)]
        simp
      · obtain rfl : i = 16 := by omega
        have p2 : Nat.testBit (2 * v) 16 = true := by
          rw [Nat.testBit_eq_decide_div_mod_eq]
          exact decide_eq_true (by omega)
        rw [p2]
        decide
theorem mb_step {w y : Nat} (hw : w < 65536) (hy : y < 65536) : mb_D (w ^^^ y) = mb_E w (y / 32768) ^^^ (2 * y % 65536) := by
  have hx : w ^^^ y < 65536 := Nat.xor_lt_two_pow (n := 16) hw hy
  have e1 : 2 * (w ^^^ y) % 65536 = (2 * w % 65536) ^^^ (2 * y % 65536) := by
    have a1 : ∀ z : Nat, 2 * z = z <<< 1 := fun z => by rw [Nat.shiftLeft_eq]; omega
    rw [a1, a1 w, a1 y, Nat.shiftLeft_xor_distrib]
    exact Nat.xor_mod_two_pow (n := 16)
  have e2 : (w ^^^ y) / 32768 = (w / 32768) ^^^ (y / 32768) := Nat.xor_div_two_pow (n := 15)
  rw [mb_Dx hx, e1, e2]
  unfold mb_E
  by_cases h : (w / 32768) ^^^ (y / 32768) = 1
  · rw [if_pos h, if_pos h, Nat.xor_assoc, Nat.xor_comm (2 * y % 65536) 4129, ← Nat.xor_assoc]
  · rw [if_neg h, if_neg h, Nat.xor_zero]
theorem mb_E_lt (w t : Nat) : mb_E w t < 65536 := by
  unfold mb_E
  split
  · exact Nat.xor_lt_two_pow (n := 16) (Nat.mod_lt _ (by decide)) (by decide)
  · exact Nat.mod_lt _ (by decide)
def mb_ie (b w : Nat) : Nat → Nat
  | 0 => w
  | j + 1 => mb_E (mb_ie b w j) (mb_bit b j)
theorem mb_ie_lt {b w : Nat} (hw : w < 65536) : ∀ j, mb_ie b w j < 65536
  | 0 => hw
  | j + 1 => mb_E_lt _ _
theorem mb_yv : ∀ b, b < 256 → ∀ j, j < 8 → (b * 2 ^ (8 + j) % 65536) / 32768 = mb_bit b j := by decide +kernel
theorem mb_it_succ : ∀ (n : Nat) (c : Int32), mb_it (n + 1) c = mb_dbl (mb_it n c)
  | 0, _ => rfl
  | n + 1, c => mb_it_succ n (mb_dbl c)
theorem mb_itN {w b : Nat} (hw : w < 65536) (hb : b < 256) : ∀ j, j ≤ 8 → mb_it j (nI (w ^^^ (b * 256))) = nI (mb_ie b w j ^^^ (b * 2 ^ (8 + j) % 65536)) := by
  intro j
  induction j with
  | zero =>
    intro _
    show nI (w ^^^ (b * 256)) = nI (w ^^^ (b * 256 % 65536))
    rw [Nat.mod_eq_of_lt (by omega)]
  | succ j ih =>
    intro hj
    have hl := mb_ie_lt (b := b) hw j
    have hy : b * 2 ^ (8 + j) % 65536 < 65536 := Nat.mod_lt _ (by decide)
    have e3 : 2 * (b * 2 ^ (8 + j) % 65536) % 65536 = b * 2 ^ (8 + (j + 1)) % 65536 := by
      rw [show 8 + (j + 1) = (8 + j) + 1 from rfl, Nat.pow_succ, ← Nat.mul_assoc]
      generalize b * 2 ^ (8 + j) = z
      omega
    rw [mb_it_succ, ih (by omega), mb_dblN (Nat.xor_lt_two_pow (n := 16) hl hy), mb_step hl hy, mb_yv b hb j (by omega), e3]
    rfl
theorem mb_cwN {w b : Nat} (hw : w < 65536) (hb : b < 256) : mb_cw (nI w) (nI b) = nI (mb_ie b w 8) := by
  unfold mb_cw
  have e : nI w ^^^ (nI b * 256) = nI (w ^^^ (b * 256)) := by
    rw [show nI b * 256 = nI (b * 256) from pk_mul b 256, mx_xor]
  rw [e, mb_itN hw hb 8 (by decide), show b * 2 ^ (8 + 8) % 65536 = 0 from Nat.mul_mod_left b 65536, Nat.xor_zero]
/-- the reference's check behind k bits -/
def mb_mk (f : Nat → Int32) (a : Nat) : Nat → Nat
  | 0 => 65535
  | k + 1 => mb_E (mb_mk f a k) (mb_bit (f (a + k / 8)).toNatClampNeg (k % 8))
theorem mb_mk_lt (f : Nat → Int32) (a : Nat) : ∀ k, mb_mk f a k < 65536
  | 0 => (by decide : (65535 : Nat) < 65536)
  | k + 1 => mb_E_lt _ _
theorem mb_mk8 (f : Nat → Int32) (a n : Nat) : ∀ j, j ≤ 8 → mb_mk f a (8 * n + j) = mb_ie (f (a + n)).toNatClampNeg (mb_mk f a (8 * n)) j := by
  intro j
  induction j with
  | zero => intro _; rfl
  | succ j ih =>
    intro hj
    show mb_E (mb_mk f a (8 * n + j)) (mb_bit (f (a + (8 * n + j) / 8)).toNatClampNeg ((8 * n + j) % 8)) = _
    rw [ih (by omega), show (8 * n + j) / 8 = n from by omega, show (8 * n + j) % 8 = j from by omega]
    rfl
theorem mb_ckN {f : Nat → Int32} (hf : ∀ j, mb_B (f j)) (a : Nat) : ∀ n, mb_ck f a n = nI (mb_mk f a (8 * n)) := by
  intro n
  induction n with
  | zero => rfl
  | succ n ih =>
    show mb_cw (mb_ck f a n) (f (a + n)) = _
    obtain ⟨b, hb, e⟩ := hf (a + n)
    rw [ih, e, mb_cwN (mb_mk_lt f a _) hb]
    have e2 : (f (a + n)).toNatClampNeg = b := by rw [e]; exact nI_clamp (by omega)
    have e3 := mb_mk8 f a n 8 (by decide)
    rw [e2] at e3
    rw [show 8 * (n + 1) = 8 * n + 8 from by omega, e3]
theorem mb_bitN : ∀ b, b < 256 → ∀ r, r < 8 → ((mb_sg (nI b)) >>> (nI (7 - r) &&& 31)) &&& 1 = nI (mb_bit b r) := by decide +kernel
theorem mb_bit2 (b r : Nat) : mb_bit b r < 2 := Nat.mod_lt _ (by decide)
theorem mb_long {a b k : Int32} (ha : 0 ≤ a.toInt) (hb : 0 ≤ b.toInt) (hk : 0 ≤ k.toInt) : k.toInt64 < a.toInt64 + b.toInt64 ↔ k - a < b := by
  have h1 := Int32.toInt_lt a
  have h2 := Int32.toInt_lt b
  rw [mb_lt, mb_sub ha hk, Int64.lt_iff_toInt_lt, Int64.toInt_add, Int32.toInt_toInt64, Int32.toInt_toInt64, Int32.toInt_toInt64, Int.bmod_eq_of_le_mul_two (by omega) (by omega)]
  omega
/-! what each method keeps -/
theorem mb_B_cpy {f g : Nat → Int32} (hf : ∀ j, mb_B (f j)) (hg : ∀ j, mb_B (g j)) (a b n : Nat) : ∀ j, mb_B (va_cpy f g a b n j) := by
  intro j
  unfold va_cpy
  split
  · exact hf _
  · exact hg _
theorem mb_B_upd {f : Nat → Int32} (hf : ∀ j, mb_B (f j)) (k : Nat) {x : Int32} (hx : mb_B x) : ∀ j, mb_B (upd f k x j) := by
  intro j
  unfold upd
  split
  · exact hx
  · exact hf _
theorem mb_app_inv {u : Bk_} (h : mb_inv u) (hz : u.2.2.toInt < 512) (b : Int32) : mb_inv (mb_app u b) ∧ (mb_app u b).2.2.toInt = u.2.2.toInt + 1 := by
  have h0 := h.1.1
  have e : (u.2.2 + 1).toInt = u.2.2.toInt + 1 := by rw [mb_add h0 (by decide) (by rw [mb_1]; omega), mb_1]
  refine ⟨⟨⟨?_, ?_⟩, h.2.1, mb_B_upd h.2.2 _ (mb_B255 b)⟩, e⟩
  · show 0 ≤ (u.2.2 + 1).toInt
    omega
  · show (u.2.2 + 1).toInt ≤ 512
    omega
theorem mb_put_inv {u : Bk_} (h : mb_inv u) (b : Int32) : mb_inv (mb_put u b).2 := by
  unfold mb_put
  by_cases c : mb_room 1 u.2.2 = 0
  · rw [if_pos c]; exact h
  · rw [if_neg c]
    have q := (mb_room_iff h.1.1).mp c
    rw [mb_1] at q
    exact (mb_app_inv h (by omega) b).1
theorem mb_cut_inv {u : Bk_} (h : mb_inv u) (n : Int32) : mb_inv (mb_cut u n).2 := by
  unfold mb_cut
  by_cases c : mb_part 0 n u.2.2 = 0
  · rw [if_pos c]; exact h
  · rw [if_neg c]
    have q := (mb_part_iff h.1.1).mp c
    rw [mb_0] at q
    have := h.1.2
    exact ⟨⟨q.2.1, by show n.toInt ≤ 512; omega⟩, h.2⟩
theorem mb_load_inv {u : Bk_} (h : mb_inv u) (k n a : Int32) : mb_inv (mb_load u k n a).2 := by
  unfold mb_load
  split
  · exact h
  · split
    · exact h
    · split
      · exact h
      · exact ⟨h.1, mb_B_cpy h.2.2 h.2.1 _ _ _, h.2.2⟩
theorem mb_dump_inv {u : Bk_} (h : mb_inv u) (a n : Int32) : mb_inv (mb_dump u a n).2 := by
  unfold mb_dump
  by_cases c1 : n < 1
  · rw [if_pos c1]; exact h
  · rw [if_neg c1]
    by_cases c2 : mb_part a n 4096 = 0
    · rw [if_pos c2]; exact h
    · rw [if_neg c2]
      by_cases c3 : mb_room n u.2.2 = 0
      · rw [if_pos c3]; exact h
      · rw [if_neg c3]
        have q := (mb_room_iff h.1.1).mp c3
        have q2 := (mb_part_iff (by decide)).mp c2
        have h0 := h.1.1
        have e : (u.2.2 + n).toInt = u.2.2.toInt + n.toInt := mb_add h0 q2.2.1 (by omega)
        exact ⟨⟨by show 0 ≤ (u.2.2 + n).toInt; omega, by show (u.2.2 + n).toInt ≤ 512; omega⟩, h.2.1, mb_B_cpy h.2.1 h.2.2 _ _ _⟩
theorem mb_rd_inv {u : Bk_} (h : mb_inv u) {c : Prop} {x y : Int32} [Decidable c] : mb_inv (if c then ((x, u) : Int32 × Bk_) else (y, u)).2 := by
  by_cases q : c
  · rw [if_pos q]; exact h
  · rw [if_neg q]; exact h
theorem mb_seal_inv {u : Bk_} (h : mb_inv u) : mb_inv (mb_seal u).2 := by
  unfold mb_seal
  by_cases c : mb_room 2 u.2.2 = 0
  · rw [if_pos c]; exact h
  · rw [if_neg c]
    have q := (mb_room_iff h.1.1).mp c
    rw [mb_2] at q
    have h1 := mb_app_inv h (by omega) (mb_ck u.2.1 0 u.2.2.toNatClampNeg >>> ((8 : Int32) &&& 31))
    exact (mb_app_inv h1.1 (by rw [h1.2]; omega) _).1
