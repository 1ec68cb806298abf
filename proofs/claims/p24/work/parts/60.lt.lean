/-! 60.lt: fields of a long (bits; begun from kit/laws/BITS.to-paste) -/
def tb (v : Int64) (i : Nat) : Bool := v.toBitVec.getLsbD i
theorem tb_ext {x y : Int64} (h : ∀ i, i < 64 → tb x i = tb y i) : x = y := Int64.toBitVec_inj.mp (BitVec.eq_of_getLsbD_eq (fun i hi => h i hi))
theorem lN_ii {a : Nat} (h : a < 2 ^ 63) : (lN a).toInt = (a : Int) := lg_ofNat_toInt h
theorem tb_and (x y : Int64) (i : Nat) : tb (x &&& y) i = (tb x i && tb y i) := by unfold tb; rw [Int64.toBitVec_and, BitVec.getLsbD_and]
theorem tb_or (x y : Int64) (i : Nat) : tb (x ||| y) i = (tb x i || tb y i) := by unfold tb; rw [Int64.toBitVec_or, BitVec.getLsbD_or]
theorem tb_xor (x y : Int64) (i : Nat) : tb (x ^^^ y) i = (tb x i ^^ tb y i) := by unfold tb; rw [Int64.toBitVec_xor, BitVec.getLsbD_xor]
theorem tb_m1 : ∀ i, i < 64 → tb (-1) i = true := by decide +kernel
theorem tl_s : ∀ n, n < 64 → (((nI n).toInt64 &&& 63).toBitVec.smod 64).toNat = n := by decide +kernel
theorem tb_shl (n : Nat) (hn : n < 64) (x : Int64) {i : Nat} (hi : i < 64) : tb (x <<< ((nI n).toInt64 &&& 63)) i = (decide (n ≤ i) && tb x (i - n)) := by
  unfold tb
  rw [Int64.toBitVec_shiftLeft]
  show (x.toBitVec <<< (((nI n).toInt64 &&& 63).toBitVec.smod 64).toNat).getLsbD i = _
  rw [tl_s n hn, BitVec.getLsbD_shiftLeft]
  rcases Nat.lt_or_ge i n with h | h
  · simp [h, Nat.not_le.mpr h]
  · simp [hi, h, Nat.not_lt.mpr h]
theorem tb_shr (n : Nat) (hn : n < 64) (x : Int64) {i : Nat} (hi : i < 64) : tb (x >>> ((nI n).toInt64 &&& 63)) i = if n + i < 64 then tb x (n + i) else tb x 63 := by
  unfold tb
  rw [Int64.toBitVec_shiftRight]
  show (x.toBitVec.sshiftRight (((nI n).toInt64 &&& 63).toBitVec.smod 64).toNat).getLsbD i = _
  rw [tl_s n hn, BitVec.getLsbD_sshiftRight, BitVec.msb_eq_getLsbD_last]
  simp [hi]
/-- the mask of b ones -/
def lmk (b : Int32) : Int64 := (1 <<< (b.toInt64 &&& 63)) - 1
theorem lmk_lN : ∀ b, b < 32 → lmk (nI b) = lN (2 ^ b - 1) := by decide +kernel
theorem tb_lN (n i : Nat) : tb (lN n) i = (decide (i < 64) && n.testBit i) := by
  unfold tb lN
  show (BitVec.ofNat 64 n).getLsbD i = _
  rw [BitVec.getLsbD_ofNat]
theorem tb_mk {b i : Nat} (hb : b < 32) : tb (lmk (nI b)) i = decide (i < b) := by
  rw [lmk_lN b hb, tb_lN, Nat.testBit_two_pow_sub_one]
  by_cases h : i < b
  · simp [h, show i < 64 by omega]
  · simp [h]
/-- the bits of v from a on, b of them -/
def fvN (v : Int64) (a b : Nat) : Nat := v.toBitVec.toNat / 2 ^ a % 2 ^ b
theorem fvN_lt {v : Int64} {a b : Nat} : fvN v a b < 2 ^ b := Nat.mod_lt _ (Nat.two_pow_pos b)
theorem fvN_tb (v : Int64) (a b i : Nat) : (fvN v a b).testBit i = (decide (i < b) && tb v (a + i)) := by
  unfold fvN tb
  rw [Nat.testBit_mod_two_pow, Nat.testBit_div_two_pow, Nat.add_comm i a]
  rfl
theorem fvN_eq {v : Int64} {a b t : Nat} (ht : t < 2 ^ b) (h : ∀ i, i < b → tb v (a + i) = t.testBit i) : fvN v a b = t := by
  apply Nat.eq_of_testBit_eq
  intro i
  rw [fvN_tb]
  by_cases c : i < b
  · rw [h i c]; simp [c]
  · rw [Nat.testBit_lt_two_pow (Nat.lt_of_lt_of_le ht (Nat.pow_le_pow_right (by decide) (Nat.not_lt.mp c)))]; simp [c]
def lwG (v : Int64) (a b : Int32) : Int32 := ((v >>> (a.toInt64 &&& 63)) &&& lmk b).toInt32
theorem lwG_eq (v : Int64) {a b : Nat} (h : a + b ≤ 63) (hb : b < 32) : lwG v (nI a) (nI b) = nI (fvN v a b) := by
  apply Int32.toBitVec_inj.mp
  apply BitVec.eq_of_getLsbD_eq
  intro i hi
  unfold lwG
  rw [Int64.toBitVec_toInt32, BitVec.getLsbD_signExtend, if_pos (by omega)]
  show (decide (i < 32) && tb _ i) = (BitVec.ofNat 32 (fvN v a b)).getLsbD i
  rw [BitVec.getLsbD_ofNat, fvN_tb, tb_and, tb_mk hb, tb_shr a (by omega) v (by omega)]
  by_cases c : i < b
  · rw [if_pos (by omega)]; simp [c]
  · simp [c]
def lwP (v : Int64) (a b t : Int32) : Int64 := (v &&& ((lmk b <<< (a.toInt64 &&& 63)) ^^^ (-1))) ||| (t.toInt64 <<< (a.toInt64 &&& 63))
theorem tb_nI {t : Nat} (ht : t < 2 ^ 31) {i : Nat} (hi : i < 64) : tb (nI t).toInt64 i = t.testBit i := by
  have e : (nI t).toInt64 = lN t := by
    apply Int64.toInt_inj.mp
    rw [Int32.toInt_toInt64, nI_toInt ht, lN_toInt (by omega)]
  rw [e, tb_lN]
  simp [hi]
theorem lwP_tb (v : Int64) {a b t : Nat} (h : a + b ≤ 63) (hb : b < 31) (ht : t < 2 ^ b) {i : Nat} (hi : i < 64) : tb (lwP v (nI a) (nI b) (nI t)) i = if a ≤ i ∧ i < a + b then t.testBit (i - a) else tb v i := by
  have ht2 : t < 2 ^ 31 := Nat.lt_of_lt_of_le ht (Nat.pow_le_pow_right (by decide) (by omega))
  unfold lwP
  rw [tb_or, tb_and, tb_xor, tb_m1 i hi, tb_shl a (by omega) _ hi, tb_shl a (by omega) _ hi, tb_mk (by omega), tb_nI ht2 (by omega)]
  by_cases c1 : a ≤ i
  · by_cases c2 : i < a + b
    · rw [if_pos ⟨c1, c2⟩]
      simp [c1, show i - a < b by omega]
    · rw [if_neg (fun z => c2 z.2), Nat.testBit_lt_two_pow (Nat.lt_of_lt_of_le ht (Nat.pow_le_pow_right (by decide) (show b ≤ i - a by omega)))]
      simp [c1, show ¬ i - a < b by omega]
  · rw [if_neg (fun z => c1 z.1)]
    simp [c1]
theorem lwP_same (v : Int64) {a b t : Nat} (h : a + b ≤ 63) (hb : b < 31) (ht : t < 2 ^ b) : fvN (lwP v (nI a) (nI b) (nI t)) a b = t :=
  fvN_eq ht (fun i hi => by rw [lwP_tb v h hb ht (by omega), if_pos ⟨by omega, by omega⟩, Nat.add_sub_cancel_left])
theorem lwP_other (v : Int64) {a b t a2 b2 : Nat} (h : a + b ≤ 63) (hb : b < 31) (ht : t < 2 ^ b) (h2 : a2 + b2 ≤ 63) (hd : a2 + b2 ≤ a ∨ a + b ≤ a2) : fvN (lwP v (nI a) (nI b) (nI t)) a2 b2 = fvN v a2 b2 :=
  fvN_eq fvN_lt (fun i hi => by rw [lwP_tb v h hb ht (by omega), if_neg (by omega), fvN_tb]; simp [hi])
/-- the eight fields of a note, as the law packs them -/
def fAt (w : Nat) : Nat := [0, 2, 9, 16, 19, 30, 41, 42].getD w 0
def fBt (w : Nat) : Nat := [2, 7, 7, 3, 11, 11, 1, 16].getD w 0
def fld (w : Nat) (v : Int64) : Int32 := nI (fvN v (fAt w) (fBt w))
def fput (w : Nat) (t : Nat) (v : Int64) : Int64 := lwP v (nI (fAt w)) (nI (fBt w)) (nI t)
theorem f_ok : ∀ w, w < 8 → fAt w + fBt w ≤ 63 ∧ fBt w < 31 := by decide +kernel
theorem f_dj : ∀ w, w < 8 → ∀ u, u < 8 → ¬ u = w → fAt u + fBt u ≤ fAt w ∨ fAt w + fBt w ≤ fAt u := by decide +kernel
theorem fld_put {v : Int64} {w u t : Nat} (hw : w < 8) (hu : u < 8) (ht : t < 2 ^ fBt w) : fld u (fput w t v) = if u = w then nI t else fld u v := by
  unfold fld fput
  by_cases c : u = w
  · subst c
    rw [if_pos rfl, lwP_same v (f_ok u hu).1 (f_ok u hu).2 ht]
  · rw [if_neg c, lwP_other v (f_ok w hw).1 (f_ok w hw).2 ht (f_ok u hu).1 (f_dj w hw u hu c)]
theorem fld_09 (v : Int64) : fvN v 0 9 = fvN v 0 2 + 4 * fvN v 2 7 := by
  unfold fvN
  omega
theorem fld_09e {v : Int64} {p q : Nat} (hp : p < 4) (hq : q < 128) : nI (fvN v 0 9) = nI (p + 4 * q) ↔ fld 0 v = nI p ∧ fld 1 v = nI q := by
  have a0 : fvN v 0 2 < 4 := fvN_lt
  have a1 : fvN v 2 7 < 128 := fvN_lt
  unfold fld
  rw [fld_09, nI_eq (by omega) (by omega)]
  show _ ↔ nI (fvN v 0 2) = nI p ∧ nI (fvN v 2 7) = nI q
  rw [nI_eq (by omega) (by omega), nI_eq (by omega) (by omega)]
  omega
/-- a new note's number: part, pitch, strength -/
theorem new_or : ∀ p, p < 4 → ∀ q, q < 3 → ∀ z, z < 128 → (((nI p ||| (nI q <<< (nI 2 &&& 31))) ||| (nI z <<< (nI 9 &&& 31))).toInt64 = lN (p + 4 * q + 512 * z)) := by decide +kernel
theorem new_fld {p q z w : Nat} (hp : p < 4) (hq : q < 3) (hz : z < 128) (hw : w < 8) : fld w (lN (p + 4 * q + 512 * z)) = if w = 0 then nI p else if w = 1 then nI q else if w = 2 then nI z else nI 0 := by
  have e : (lN (p + 4 * q + 512 * z)).toBitVec.toNat = p + 4 * q + 512 * z := by
    show (BitVec.ofNat 64 _).toNat = _
    rw [BitVec.toNat_ofNat, Nat.mod_eq_of_lt (by omega)]
  unfold fld fvN
  rw [e]
  rcases (show w = 0 ∨ w = 1 ∨ w = 2 ∨ w = 3 ∨ w = 4 ∨ w = 5 ∨ w = 6 ∨ w = 7 by omega) with rfl | rfl | rfl | rfl | rfl | rfl | rfl | rfl
  · exact congrArg nI (show (p + 4 * q + 512 * z) / 2 ^ 0 % 2 ^ 2 = p by omega)
  · exact congrArg nI (show (p + 4 * q + 512 * z) / 2 ^ 2 % 2 ^ 7 = q by omega)
  · exact congrArg nI (show (p + 4 * q + 512 * z) / 2 ^ 9 % 2 ^ 7 = z by omega)
  · exact congrArg nI (show (p + 4 * q + 512 * z) / 2 ^ 16 % 2 ^ 3 = 0 by omega)
  · exact congrArg nI (show (p + 4 * q + 512 * z) / 2 ^ 19 % 2 ^ 11 = 0 by omega)
  · exact congrArg nI (show (p + 4 * q + 512 * z) / 2 ^ 30 % 2 ^ 11 = 0 by omega)
  · exact congrArg nI (show (p + 4 * q + 512 * z) / 2 ^ 41 % 2 ^ 1 = 0 by omega)
  · exact congrArg nI (show (p + 4 * q + 512 * z) / 2 ^ 42 % 2 ^ 16 = 0 by omega)
