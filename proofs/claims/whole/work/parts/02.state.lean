/-! what a state is: the memory's cells, the row's cells, the row's size; and what each method makes of it (the class's own words) -/
abbrev Bk_ : Type := (Nat → Int32) × (Nat → Int32) × Int32
abbrev at_W {S : Type} (dC : Nat → ClassId) (dI : Nat → Nat → Nat) (A : Nat → Prop) (tys : List (ClassId × FieldType)) (wf : S → va_W) (u : S) (t : State) : Prop := va_P (dC, dI) vwCl (wf u) t.heap ∧ va_K (dC, dI) vwCl tys t ∧ va_D A (wf u)
def mb_part (a b c : Int32) : Int32 := if a < 0 then 0 else if b < 0 then 0 else if c - a < b then 0 else 1
def mb_room (n z : Int32) : Int32 := if 512 - z < n then 0 else 1
def mb_app (u : Bk_) (b : Int32) : Bk_ := (u.1, upd u.2.1 u.2.2.toNatClampNeg (b &&& 255), u.2.2 + 1)
def mb_dbl (c : Int32) : Int32 := if c * 2 < 65536 then c * 2 else (c * 2) ^^^ 69665
def mb_it : Nat → Int32 → Int32
  | 0, c => c
  | n + 1, c => mb_it n (mb_dbl c)
def mb_cw (c b : Int32) : Int32 := mb_it 8 (c ^^^ (b * 256))
def mb_ck (f : Nat → Int32) (a : Nat) : Nat → Int32
  | 0 => 65535
  | n + 1 => mb_cw (mb_ck f a n) (f (a + n))
def mb_put (u : Bk_) (b : Int32) : Int32 × Bk_ := if mb_room 1 u.2.2 = 0 then (-1, u) else (u.2.2 + 1, mb_app u b)
def mb_cut (u : Bk_) (n : Int32) : Int32 × Bk_ := if mb_part 0 n u.2.2 = 0 then (0, u) else (1, (u.1, u.2.1, n))
def mb_size (u : Bk_) : Int32 × Bk_ := (u.2.2, u)
def mb_rowAt (u : Bk_) (k : Int32) : Int32 × Bk_ := if mb_part k 1 u.2.2 = 0 then (-1, u) else (u.2.1 k.toNatClampNeg, u)
def mb_load (u : Bk_) (k n a : Int32) : Int32 × Bk_ := if n < 1 then (0, u) else if mb_part k n u.2.2 = 0 then (0, u) else if mb_part a n 4096 = 0 then (0, u) else (1, (va_cpy u.2.1 u.1 k.toNatClampNeg a.toNatClampNeg n.toNatClampNeg, u.2.1, u.2.2))
def mb_dump (u : Bk_) (a n : Int32) : Int32 × Bk_ := if n < 1 then (0, u) else if mb_part a n 4096 = 0 then (0, u) else if mb_room n u.2.2 = 0 then (0, u) else (1, (u.1, va_cpy u.1 u.2.1 a.toNatClampNeg u.2.2.toNatClampNeg n.toNatClampNeg, u.2.2 + n))
def mb_check (u : Bk_) (a n : Int32) : Int32 × Bk_ := if mb_part a n 4096 = 0 then (-1, u) else (mb_ck u.1 a.toNatClampNeg n.toNatClampNeg, u)
def mb_rowCheck (u : Bk_) (n : Int32) : Int32 × Bk_ := if mb_part 0 n u.2.2 = 0 then (-1, u) else (mb_ck u.2.1 0 n.toNatClampNeg, u)
def mb_seal (u : Bk_) : Int32 × Bk_ := if mb_room 2 u.2.2 = 0 then (0, u) else (1, mb_app (mb_app u (mb_ck u.2.1 0 u.2.2.toNatClampNeg >>> ((8 : Int32) &&& 31))) (mb_ck u.2.1 0 u.2.2.toNatClampNeg))
def mb_at (u : Bk_) (k : Int32) : Int32 × Bk_ := if mb_part k 1 4096 = 0 then (-1, u) else (u.1 k.toNatClampNeg, u)
/-- the size is one -/
def mb_ok (u : Bk_) : Prop := 0 ≤ u.2.2.toInt ∧ u.2.2.toInt ≤ 512
theorem mb_lt {x y : Int32} : x < y ↔ x.toInt < y.toInt := Int32.lt_iff_toInt_lt
theorem mb_le {x y : Int32} : x ≤ y ↔ x.toInt ≤ y.toInt := Int32.le_iff_toInt_le
theorem mb_cl (x : Int32) : x.toNatClampNeg = x.toInt.toNat := rfl
theorem mb_0 : (0 : Int32).toInt = 0 := by decide
theorem mb_1 : (1 : Int32).toInt = 1 := by decide
theorem mb_2 : (2 : Int32).toInt = 2 := by decide
theorem mb_512 : (512 : Int32).toInt = 512 := by decide
theorem mb_4096 : (4096 : Int32).toInt = 4096 := by decide
theorem mb_sub {a c : Int32} (ha : 0 ≤ a.toInt) (hc : 0 ≤ c.toInt) : (c - a).toInt = c.toInt - a.toInt := by
  rw [Int32.toInt_sub]
  have h1 := Int32.toInt_lt a
  have h2 := Int32.toInt_lt c
  exact Int.bmod_eq_of_le_mul_two (by omega) (by omega)
theorem mb_add {a c : Int32} (ha : 0 ≤ a.toInt) (hc : 0 ≤ c.toInt) (h : a.toInt + c.toInt < 2 ^ 31) : (a + c).toInt = a.toInt + c.toInt := by
  rw [Int32.toInt_add]
  exact Int.bmod_eq_of_le_mul_two (by omega) (by omega)
theorem mb_part_iff {a b c : Int32} (hc : 0 ≤ c.toInt) : ¬ mb_part a b c = 0 ↔ 0 ≤ a.toInt ∧ 0 ≤ b.toInt ∧ a.toInt + b.toInt ≤ c.toInt := by
  unfold mb_part
  by_cases h1 : a < 0
  · rw [if_pos h1]; rw [mb_lt, mb_0] at h1
    exact ⟨fun h => absurd rfl h, fun h => by omega⟩
  · rw [if_neg h1]
    rw [mb_lt, mb_0] at h1
    by_cases h2 : b < 0
    · rw [if_pos h2]; rw [mb_lt, mb_0] at h2
      exact ⟨fun h => absurd rfl h, fun h => by omega⟩
    · rw [if_neg h2]
      rw [mb_lt, mb_0] at h2
      by_cases h3 : c - a < b
      · rw [if_pos h3]; rw [mb_lt, mb_sub (by omega) hc] at h3
        exact ⟨fun h => absurd rfl h, fun h => by omega⟩
      · rw [if_neg h3]; rw [mb_lt, mb_sub (by omega) hc] at h3
        exact ⟨fun _ => by omega, fun _ => by decide⟩
theorem mb_room_iff {n z : Int32} (hz : 0 ≤ z.toInt) : ¬ mb_room n z = 0 ↔ n.toInt + z.toInt ≤ 512 := by
  unfold mb_room
  by_cases h3 : 512 - z < n
  · rw [if_pos h3]; rw [mb_lt, mb_sub hz (by decide), mb_512] at h3
    exact ⟨fun h => absurd rfl h, fun h => by omega⟩
  · rw [if_neg h3]; rw [mb_lt, mb_sub hz (by decide), mb_512] at h3
    exact ⟨fun _ => by omega, fun _ => by decide⟩
theorem mb_in {k : Int32} {n : Nat} (h0 : 0 ≤ k.toInt) (h : k.toInt < n) : vp_in k n := vp_in_iff.mpr ⟨h0, h⟩
theorem mb_n0 {k : Int32} (h : 0 ≤ k.toInt) : ¬ k < 0 := by rw [mb_lt, mb_0]; omega
theorem mb_nI {k : Int32} (h : 0 ≤ k.toInt) : k = nI k.toNatClampNeg := by
  obtain ⟨j, hj, e⟩ := nI_of (mb_n0 h)
  rw [e, nI_clamp hj]
abbrev at_N {S : Type} (dC : Nat → ClassId) (dI : Nat → Nat → Nat) (A : Nat → Prop) (wf : S → va_W) (tf : S → List (ClassId × FieldType)) (u : S) (t : State) : Prop := va_P (dC, dI) vwCl (wf u) t.heap ∧ va_K (dC, dI) vwCl (tf u) t ∧ va_D A (wf u)
