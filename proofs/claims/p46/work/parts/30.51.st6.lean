/-! feed, written, isAlternating. -/
theorem z3u {v : Int} (h0 : 0 ≤ v) (h1 : v < 65536) : (Int32.toUInt32 (z3 v)).toNat = v.toNat := by
  show (BitVec.ofInt 32 v).toNat = v.toNat
  rw [BitVec.toNat_ofInt]
  omega
theorem z3ch {v : Int} (h0 : 0 ≤ v) (h1 : v < 65536) : (Int32.toUInt32 (z3 v) % 65536).toInt32 = z3 v := by
  have e := z3u h0 h1
  have : Int32.toUInt32 (z3 v) % 65536 = Int32.toUInt32 (z3 v) := by
    apply UInt32.toNat_inj.1
    rw [UInt32.toNat_mod, e]
    show v.toNat % 65536 = v.toNat
    omega
  rw [this]
  rfl
theorem z3nar {v : Int} (h0 : 0 ≤ v) (h1 : v < 65536) : vp_nar .char (z3 v) = z3 v := by
  have e := z3u h0 h1
  rw [vp_nar_char]
  have : (Int32.toUInt32 (z3 v)).toUInt16.toUInt32 = Int32.toUInt32 (z3 v) := by
    apply UInt32.toNat_inj.1
    rw [UInt16.toNat_toUInt32, UInt32.toNat_toUInt16, e]
    omega
  rw [this]
  rfl
theorem and255 (x : Int32) : ∃ v : Int, 0 ≤ v ∧ v < 256 ∧ x &&& 255 = z3 v := by
  have h : (x.toBitVec &&& 255#32).toNat < 256 := by
    rw [BitVec.toNat_and]
    exact Nat.lt_of_le_of_lt Nat.and_le_right (by decide)
  refine ⟨(x &&& 255).toInt, ?_, ?_, (z3i _).symm⟩
  · show 0 ≤ (x.toBitVec &&& 255#32).toInt
    rw [BitVec.toInt_eq_toNat_of_lt (by omega)]
    omega
  · show (x.toBitVec &&& 255#32).toInt < 256
    rw [BitVec.toInt_eq_toNat_of_lt (by omega)]
    omega
def byz (k : Int32) (j : Int) : Int32 := ((k.toUInt32 >>> (Int32.toUInt32 (z3 (24 - 8 * j)) &&& Int32.toUInt32 31)).toInt32) &&& 255
def apz (k : Int32) (b : Int) (m : Nat) (f : Nat → Int32) : Nat → Int32 := itz (fun j f => upd f (b + j).toNat (byz k j)) m 0 f
theorem append3 (k : Int32) (f : Nat → Int32) {b : Int} (b0 : 0 ≤ b) (b1 : b ≤ 396) : mX5_append f (z3 b) k = some (apz k b 4 f, z3 (b + 4)) := by
  have H := runz (fun n j (a : Nat → Int32) => lX5_append_3 k n (z3 (24 - 8 * j)) a (z3 (b + j))) (fun j f => upd f (b + j).toNat (byz k j)) (fun j _ => 0 ≤ j) 4 (fun a => (a, z3 (b + 4)))
    (fun n j a hj hp => by
      have hp : 0 ≤ j := hp
      refine ⟨?_, by omega⟩
      have g1 : ¬ z3 (24 - 8 * j) < 0 := fun w => by have := (z3lt (by omega) (by omega) (by omega) (by omega)).1 (l3_0 ▸ w); omega
      have g2 : ¬ (400 : Int32) ≤ z3 (b + j) := fun w => by have := (z3le (by omega) (by omega) (by omega) (by omega)).1 (l3_400 ▸ w); omega
      rw [lX5_append_3, if_neg g1, if_neg g2, if_neg (gix (by omega) (by omega) (by decide)), z3nat (by omega) (by omega), show (-8 : Int32) = z3 (-8) from rfl, l3_1, z3a, z3a, show (24 : Int) - 8 * j + -8 = 24 - 8 * (j + 1) by omega, Int.add_assoc b j 1]
      rfl)
    (fun n a hp => by
      rw [lX5_append_3, if_pos (by decide)])
    4 FU 0 f (by omega) (by decide) (by omega)
  have H1 := H.1
  rw [show (24 : Int) - 8 * 0 = 24 by omega, show b + 0 = b by omega] at H1
  unfold mX5_append
  rw [l3_24, H1]
  rfl
/-- two buffers that agree -/
def Bys (b : Int) (f g : Nat → Int32) : Prop := ∀ i, 0 ≤ i → i < b → f i.toNat = g i.toNat ∧ ∃ v, 0 ≤ v ∧ v < 256 ∧ g i.toNat = z3 v
theorem apz_B (k : Int32) {b : Int} (b0 : 0 ≤ b) {f g : Nat → Int32} (h : Bys b f g) : ∀ m : Nat, Bys (b + m) (apz k b m f) (apz k b m g) := by
  intro m
  induction m with
  | zero =>
    intro i i0 i1
    exact h i i0 (by omega)
  | succ m ih =>
    intro i i0 i1
    unfold apz
    rw [itz_e, itz_e, show (0 : Int) + (m : Int) = m by omega]
    by_cases w : i = b + m
    · rw [w, upd_s, upd_s]
      exact ⟨rfl, and255 _⟩
    · rw [upd_n (by omega), upd_n (by omega)]
      exact ih i i0 (by omega)