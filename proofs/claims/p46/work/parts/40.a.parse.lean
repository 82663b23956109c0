/-! The class' reader on the law's text. -/
theorem lt1 {b : Int} (h0 : -10 ≤ b) (h1 : b < 256) (h : lts b) : mX5_isLetter (z3 b) = some 1 := by
  unfold mX5_isLetter
  unfold lts at h
  rw [if_neg (fun w => by have := (z3lt (by omega) (by omega) (by omega) (by omega)).1 (l3_97 ▸ w); omega), if_neg (fun w => by have := (z3lt (by omega) (by omega) (by omega) (by omega)).1 (l3_122 ▸ w); omega)]
theorem lt0 {b : Int} (h0 : -10 ≤ b) (h1 : b < 256) (h : ¬ lts b) : mX5_isLetter (z3 b) = some 0 := by
  unfold mX5_isLetter
  unfold lts at h
  by_cases w : b < 97
  · rw [if_pos (l3_97 ▸ (z3lt (by omega) (by omega) (by omega) (by omega)).2 w)]
  · rw [if_neg (fun q => w ((z3lt (by omega) (by omega) (by omega) (by omega)).1 (l3_97 ▸ q))), if_pos (l3_122 ▸ (z3lt (by omega) (by omega) (by omega) (by omega)).2 (by omega))]
theorem dg1 {b : Int} (h0 : -10 ≤ b) (h1 : b < 256) (h : dgt b) : mX5_isDigit (z3 b) = some 1 := by
  unfold mX5_isDigit
  unfold dgt at h
  rw [if_neg (fun w => by have := (z3lt (by omega) (by omega) (by omega) (by omega)).1 (l3_48 ▸ w); omega), if_neg (fun w => by have := (z3lt (by omega) (by omega) (by omega) (by omega)).1 (l3_57 ▸ w); omega)]
theorem dg0 {b : Int} (h0 : -10 ≤ b) (h1 : b < 256) (h : ¬ dgt b) : mX5_isDigit (z3 b) = some 0 := by
  unfold mX5_isDigit
  unfold dgt at h
  by_cases w : b < 48
  · rw [if_pos (l3_48 ▸ (z3lt (by omega) (by omega) (by omega) (by omega)).2 w)]
  · rw [if_neg (fun q => w ((z3lt (by omega) (by omega) (by omega) (by omega)).1 (l3_48 ▸ q))), if_pos (l3_57 ▸ (z3lt (by omega) (by omega) (by omega) (by omega)).2 (by omega))]
section PRS
variable {len : Int} {f : Nat → Int32} {bv : Int → Int}
theorem word3 (hB : Bt len f f bv) (l0 : 0 ≤ len) (l1 : len ≤ 400) {p q : Int} (p0 : 0 ≤ p) (pq : p ≤ q) (q1 : q ≤ len) (hs : ∀ i, p ≤ i → i < q → lts (bv i)) (he : q = len ∨ (q < len ∧ ¬ lts (bv q))) : lX5_step_89 1 0 (z3 len) f FU (z3 p) (z3 p) = some (z3 q) := by
  obtain ⟨n, -, e, -⟩ := skipr (fun n j (_ : Unit) => lX5_step_89 1 0 (z3 len) f n (z3 j) (z3 j)) (fun j _ => p ≤ j) q
    (fun n j _ hj hp => by
      have hp : p ≤ j := hp
      refine ⟨(), ?_, by omega⟩
      have b := hB j (by omega) (by omega)
      rw [lX5_step_89, if_neg (fun w => by have := (z3le (by omega) (by omega) (by omega) (by omega)).1 w; omega), if_neg n10, byte3 hB l0 l1 (by omega) (by omega), Option.bind_some, lt1 (by omega) (by omega) (hs j hp hj), Option.bind_some, if_neg n10, l3_1, z3a])
    (q - p).toNat FU p () (by omega) (fuel (by omega)) (Int.le_refl _)
  rw [e, lX5_step_89]
  rcases he with w | ⟨w, w2⟩
  · rw [if_pos ((z3le (by omega) (by omega) (by omega) (by omega)).2 (by omega))]
  · have b := hB q (by omega) (by omega)
    rw [if_neg (fun w => by have := (z3le (by omega) (by omega) (by omega) (by omega)).1 w; omega), if_neg n10, byte3 hB l0 l1 (by omega) (by omega), Option.bind_some, lt0 (by omega) (by omega) w2, Option.bind_some, if_pos rfl, if_pos rfl]
theorem digs3 (hB : Bt len f f bv) (l0 : 0 ≤ len) (l1 : len ≤ 400) {p q : Int} (p0 : 0 ≤ p) (pq : p ≤ q) (q1 : q ≤ len) (hs : ∀ i, p ≤ i → i < q → dgt (bv i)) (he : q = len ∨ (q < len ∧ ¬ dgt (bv q))) : lX5_step_89 0 1 (z3 len) f FU (z3 p) (z3 p) = some (z3 q) := by
  obtain ⟨n, -, e, -⟩ := skipr (fun n j (_ : Unit) => lX5_step_89 0 1 (z3 len) f n (z3 j) (z3 j)) (fun j _ => p ≤ j) q
    (fun n j _ hj hp => by
      have hp : p ≤ j := hp
      refine ⟨(), ?_, by omega⟩
      have b := hB j (by omega) (by omega)
      rw [lX5_step_89, if_neg (fun w => by have := (z3le (by omega) (by omega) (by omega) (by omega)).1 w; omega), if_pos rfl, if_neg n10, byte3 hB l0 l1 (by omega) (by omega), Option.bind_some, dg1 (by omega) (by omega) (hs j hp hj), Option.bind_some, if_neg n10, l3_1, z3a])
    (q - p).toNat FU p () (by omega) (fuel (by omega)) (Int.le_refl _)
  rw [e, lX5_step_89]
  rcases he with w | ⟨w, w2⟩
  · rw [if_pos ((z3le (by omega) (by omega) (by omega) (by omega)).2 (by omega))]
  · have b := hB q (by omega) (by omega)
    rw [if_neg (fun w => by have := (z3le (by omega) (by omega) (by omega) (by omega)).1 w; omega), if_pos rfl, if_neg n10, byte3 hB l0 l1 (by omega) (by omega), Option.bind_some, dg0 (by omega) (by omega) w2, Option.bind_some, if_pos rfl]
/-- no space, or one, ahead of a token -/
def Gp (bv : Int → Int) (p q : Int) : Prop := q = p ∨ (q = p + 1 ∧ bv p = 32)
theorem skipG (hB : Bt len f f bv) (l0 : 0 ≤ len) (l1 : len ≤ 400) {p q : Int} (p0 : 0 ≤ p) (h : Gp bv p q) (q1 : q < len) (ns : ¬ spc (bv q)) : lX5_step_13 (z3 len) f FU (z3 p) (z3 p) = some (z3 q) := by
  refine skip3 hB l0 l1 p0 ?_ (by omega) (fun i i0 i1 => ?_) (Or.inr ⟨q1, ns⟩)
  · rcases h with h | h <;> omega
  · rcases h with h | ⟨h, h2⟩
    · omega
    · have : i = p := by omega
      rw [this]
      exact Or.inl h2
theorem Gp.b {p q : Int} (p0 : 0 ≤ p) (h : Gp bv p q) : p ≤ q ∧ 0 ≤ q := by rcases h with h | h <;> omega
theorem stA (hB : Bt len f f bv) (l0 : 0 ≤ len) (l1 : len ≤ 400) {p q r : Int} (p0 : 0 ≤ p) (h : Gp bv p q) (qr : q < r) (r1 : r ≤ len) (r8 : r - q ≤ 8) (hs : ∀ i, q ≤ i → i < r → lts (bv i)) (he : r = len ∨ (r < len ∧ ¬ lts (bv r))) (st tk : Int32) : mX5_step f (z3 len) (z3 p) st tk = some (z3 r, z3 q, 1) := by
  have q0 := h.b p0
  have hq := hs q (Int.le_refl q) qr
  have hq2 := hq
  unfold lts at hq2
  have b := hB q (by omega) (by omega)
  unfold mX5_step
  rw [skipG hB l0 l1 p0 h (by omega) (fun w => by unfold spc at w; omega), Option.bind_some, byte3 hB l0 l1 (by omega) (by omega), Option.bind_some, lt1 (by omega) (by omega) hq, Option.bind_some, dg0 (by omega) (by omega) (fun w => by unfold dgt at w; omega), Option.bind_some, l3_1, z3a, ← l3_1, word3 hB l0 l1 (by omega) (by omega) r1 (fun i i0 i1 => hs i (by omega) i1) he, Option.bind_some, if_pos ((z3lt (by omega) (by omega) (by omega) (by omega)).2 (by omega)), if_neg n10, z3s, if_pos (show z3 (r - q) ≤ 8 from (z3le (b := 8) (by omega) (by omega) (by omega) (by omega)).2 r8)]
theorem stD (hB : Bt len f f bv) (l0 : 0 ≤ len) (l1 : len ≤ 400) {p q r : Int} (p0 : 0 ≤ p) (h : Gp bv p q) (qr : q < r) (r1 : r ≤ len) (r8 : r - q ≤ 2) (hs : ∀ i, q ≤ i → i < r → dgt (bv i)) (he : r = len ∨ (r < len ∧ ¬ dgt (bv r))) (st tk : Int32) : mX5_step f (z3 len) (z3 p) st tk = some (z3 r, z3 q, 2) := by
  have q0 := h.b p0
  have hq := hs q (Int.le_refl q) qr
  have hq2 := hq
  unfold dgt at hq2
  have b := hB q (by omega) (by omega)
  unfold mX5_step
  rw [skipG hB l0 l1 p0 h (by omega) (fun w => by unfold spc at w; omega), Option.bind_some, byte3 hB l0 l1 (by omega) (by omega), Option.bind_some, lt0 (by omega) (by omega) (fun w => by unfold lts at w; omega), Option.bind_some, dg1 (by omega) (by omega) hq, Option.bind_some, l3_1, z3a, ← l3_1, digs3 hB l0 l1 (by omega) (by omega) r1 (fun i i0 i1 => hs i (by omega) i1) he, Option.bind_some, if_pos ((z3lt (by omega) (by omega) (by omega) (by omega)).2 (by omega)), if_pos rfl, if_neg n10, z3s, if_pos (show z3 (r - q) ≤ 2 from (z3le (b := 2) (by omega) (by omega) (by omega) (by omega)).2 r8)]
theorem stO (hB : Bt len f f bv) (l0 : 0 ≤ len) (l1 : len ≤ 400) {p q : Int} (p0 : 0 ≤ p) (h : Gp bv p q) (q1 : q < len) (st tk : Int32) : (bv q = 45 → mX5_step f (z3 len) (z3 p) st tk = some (z3 (q + 1), z3 q, 3)) ∧ (bv q = 59 → mX5_step f (z3 len) (z3 p) st tk = some (z3 (q + 1), z3 q, 4)) := by
  have q0 := h.b p0
  have b := hB q (by omega) (by omega)
  constructor
  · intro w
    unfold mX5_step
    rw [skipG hB l0 l1 p0 h (by omega) (fun w => by unfold spc at w; omega), Option.bind_some, byte3 hB l0 l1 (by omega) (by omega), Option.bind_some, lt0 (by omega) (by omega) (fun w => by unfold lts at w; omega), Option.bind_some, dg0 (by omega) (by omega) (fun w => by unfold dgt at w; omega), Option.bind_some, l3_1, z3a, none3 l0 l1 (by omega) (by omega), Option.bind_some, if_pos ((z3lt (by omega) (by omega) (by omega) (by omega)).2 (by omega)), if_pos rfl, if_pos rfl, if_pos (by rw [w]; rfl)]
  · intro w
    unfold mX5_step
    rw [skipG hB l0 l1 p0 h (by omega) (fun w => by unfold spc at w; omega), Option.bind_some, byte3 hB l0 l1 (by omega) (by omega), Option.bind_some, lt0 (by omega) (by omega) (fun w => by unfold lts at w; omega), Option.bind_some, dg0 (by omega) (by omega) (fun w => by unfold dgt at w; omega), Option.bind_some, l3_1, z3a, none3 l0 l1 (by omega) (by omega), Option.bind_some, if_pos ((z3lt (by omega) (by omega) (by omega) (by omega)).2 (by omega)), if_pos rfl, if_pos rfl, if_neg (by rw [w]; decide), if_pos (by rw [w]; rfl)]
theorem stE (hB : Bt len f f bv) (l0 : 0 ≤ len) (l1 : len ≤ 400) (st tk : Int32) : mX5_step f (z3 len) (z3 len) st tk = some (z3 (len + 1), z3 len, 5) := by
  unfold mX5_step
  rw [skip3 hB l0 l1 l0 (Int.le_refl len) (Int.le_refl len) (fun i i0 i1 => by omega) (Or.inl rfl), Option.bind_some, byte3n l0 l1 (Int.le_refl len) (by omega), Option.bind_some, show mX5_isLetter 0 = some 0 from rfl, Option.bind_some, show mX5_isDigit 0 = some 0 from rfl, Option.bind_some, l3_1, z3a, none3 l0 l1 (by omega) (by omega), Option.bind_some, if_neg (fun w => by have := (z3lt (by omega) (by omega) (by omega) (by omega)).1 w; omega)]
/-- the rest of the text from p on -/
def Rs (bv : Int → Int) (len p : Int) (M : List Nat) : Prop := 0 ≤ p ∧ p + M.length = len ∧ ∀ i : Nat, i < M.length → bv (p + i) = (M.getD i 0 : Nat)
theorem Rs.hd {p : Int} {c : Nat} {M : List Nat} (h : Rs bv len p (c :: M)) : bv p = c ∧ p < len := by
  obtain ⟨h0, h1, h2⟩ := h
  have := h2 0 (Nat.zero_lt_succ _)
  rw [show p + ((0 : Nat) : Int) = p by omega] at this
  refine ⟨this, ?_⟩
  rw [List.length_cons] at h1
  omega
theorem Rs.tl {p : Int} {c : Nat} {M : List Nat} (h : Rs bv len p (c :: M)) : Rs bv len (p + 1) M := by
  obtain ⟨h0, h1, h2⟩ := h
  rw [List.length_cons] at h1
  refine ⟨by omega, by omega, fun i hi => ?_⟩
  have := h2 (i + 1) (by rw [List.length_cons]; omega)
  rw [show p + ((i + 1 : Nat) : Int) = p + 1 + i by omega] at this
  exact this
theorem Rs.app : ∀ {A : List Nat} {p : Int} {M : List Nat}, Rs bv len p (A ++ M) → Rs bv len (p + A.length) M ∧ ∀ i, p ≤ i → i < p + A.length → ∃ j : Nat, j < A.length ∧ i = p + j ∧ bv i = (A.getD j 0 : Nat)
  | [], p, M, h => ⟨by rw [show p + (([] : List Nat).length : Int) = p from Int.add_zero p]; exact h, fun i i0 i1 => by rw [show p + (([] : List Nat).length : Int) = p from Int.add_zero p] at i1; omega⟩
  | c :: A, p, M, h => by
    have ht : Rs bv len (p + 1) (A ++ M) := Rs.tl (c := c) h
    obtain ⟨e1, e2⟩ := Rs.app ht
    rw [List.length_cons]
    refine ⟨by rw [show p + ((A.length + 1 : Nat) : Int) = p + 1 + A.length by omega]; exact e1, fun i i0 i1 => ?_⟩
    by_cases w : i = p
    · refine ⟨0, Nat.zero_lt_succ _, by omega, ?_⟩
      rw [w]
      exact (Rs.hd (M := A ++ M) h).1
    · obtain ⟨j, j1, j2, j3⟩ := e2 i (by omega) (by omega)
      exact ⟨j + 1, by omega, by omega, j3⟩
/-- a word of letters, and what stands behind -/
theorem rsA (hB : Bt len f f bv) (l0 : 0 ≤ len) (l1 : len ≤ 400) {p q : Int} {A M : List Nat} {c : Nat} (p0 : 0 ≤ p) (h : Gp bv p q) (hR : Rs bv len q (A ++ c :: M)) (hA : ∀ a ∈ A, 97 ≤ a ∧ a ≤ 122) (a1 : 1 ≤ A.length) (a8 : A.length ≤ 8) (hc : ¬ lts c) (st tk : Int32) : mX5_step f (z3 len) (z3 p) st tk = some (z3 (q + A.length), z3 q, 1) ∧ Rs bv len (q + A.length) (c :: M) := by
  obtain ⟨e1, e2⟩ := Rs.app hR
  have e3 := Rs.hd e1
  refine ⟨stA hB l0 l1 p0 h (by omega) (by omega) (by omega) (fun i i0 i1 => ?_) (Or.inr ⟨e3.2, by rw [e3.1]; exact hc⟩) st tk, e1⟩
  obtain ⟨j, j1, j2, j3⟩ := e2 i i0 i1
  rw [j3, List.getD_eq_getElem?_getD, List.getElem?_eq_getElem j1]
  have := hA _ (List.getElem_mem j1)
  unfold lts
  show (97 : Int) ≤ (A[j] : Nat) ∧ ((A[j] : Nat) : Int) ≤ 122
  omega
theorem isw1 (hB : Bt len f f bv) (l0 : 0 ≤ len) (l1 : len ≤ 400) {q : Int} {i : Nat} {A M : List Nat} (q0 : 0 ≤ q) (hR : Rs bv len q (A ++ M)) (hl : (litB i).length = A.length) (hb : ∀ j : Nat, j < A.length → z3 (A.getD j 0 : Nat) = litC i (z3 j)) (a8 : A.length ≤ 8) : mX5_isWord f (z3 len) (z3 (q + A.length)) (z3 q) 1 i = some 1 := by
  obtain ⟨e1, e2⟩ := Rs.app hR
  have qq := e1.2.1
  have hM : (0 : Int) ≤ M.length := by omega
  unfold mX5_isWord
  rw [if_pos rfl, z3s, hl, if_pos (by rw [show q + (A.length : Int) - q = (A.length : Nat) by omega, z3_nI (by omega)])]
  obtain ⟨n, -, e, -⟩ := skipr (fun n j (_ : Unit) => lX5_isWord_28 i (z3 len) (z3 q) f n (z3 j)) (fun j _ => 0 ≤ j) (A.length : Int)
    (fun n j _ hj hp => by
      have hp : 0 ≤ j := hp
      refine ⟨(), ?_, by omega⟩
      obtain ⟨j2, j3, j4, j5⟩ := e2 (q + j) (by omega) (by omega)
      have ej : j = j2 := by omega
      rw [lX5_isWord_28, hl, ← z3_nI (by omega), if_neg (fun w => by have := (z3le (by omega) (by omega) (by omega) (by omega)).1 w; omega), z3a, byte3 hB l0 l1 (by omega) (by omega), Option.bind_some, if_neg (gix hp (by omega) (by omega)), if_pos (by rw [j5, ej]; exact hb j2 j3), l3_1, z3a])
    A.length FU 0 () (by omega) (fuel (by omega)) (Int.le_refl _)
  rw [l3_0, e, lX5_isWord_28, hl, ← z3_nI (by omega), if_pos ((z3le (by omega) (by omega) (by omega) (by omega)).2 (Int.le_refl _))]
  rfl
/-- a number with its sign -/
theorem dgN_len (k : Nat) : 1 ≤ (dgN k).length ∧ (dgN k).length ≤ 2 := by
  unfold dgN
  split <;> (simp only [List.length_cons, List.length_nil]; omega)
theorem dgN_d {k : Nat} (hk : k ≤ 99) : ∀ a ∈ dgN k, 48 ≤ a ∧ a ≤ 57 := by
  intro c hc
  unfold dgN at hc
  split at hc
  · have := List.mem_singleton.mp hc
    omega
  · rcases List.mem_cons.mp hc with h | h
    · omega
    · have := List.mem_singleton.mp h
      omega
theorem rsD (hB : Bt len f f bv) (l0 : 0 ≤ len) (l1 : len ≤ 400) {p q : Int} {k : Nat} {M : List Nat} {c : Nat} (hk : k ≤ 99) (p0 : 0 ≤ p) (h : Gp bv p q) (hR : Rs bv len q (dgN k ++ c :: M)) (hc : ¬ dgt c) (st tk : Int32) : mX5_step f (z3 len) (z3 p) st tk = some (z3 (q + (dgN k).length), z3 q, 2) ∧ Rs bv len (q + (dgN k).length) (c :: M) ∧ vnz bv q (dgN k).length = k := by
  obtain ⟨e1, e2⟩ := Rs.app hR
  have e3 := Rs.hd e1
  have hL := dgN_len k
  refine ⟨stD hB l0 l1 p0 h (by omega) (by omega) (by omega) (fun i i0 i1 => ?_) (Or.inr ⟨e3.2, by rw [e3.1]; exact hc⟩) st tk, e1, ?_⟩
  · obtain ⟨j, j1, j2, j3⟩ := e2 i i0 i1
    rw [j3, List.getD_eq_getElem?_getD, List.getElem?_eq_getElem j1]
    have := dgN_d hk _ (List.getElem_mem j1)
    unfold dgt
    show (48 : Int) ≤ ((dgN k)[j] : Nat) ∧ (((dgN k)[j] : Nat) : Int) ≤ 57
    omega
  · by_cases w : k < 10
    · have ek : dgN k = [48 + k] := if_pos w
      rw [ek] at hR ⊢
      have := (Rs.hd (M := c :: M) hR).1
      show bv q - 48 = k
      omega
    · have ek : dgN k = [48 + k / 10, 48 + k % 10] := if_neg w
      rw [ek] at hR ⊢
      have a1 := (Rs.hd (M := (48 + k % 10) :: c :: M) hR).1
      have a2 := (Rs.hd (M := c :: M) (Rs.tl (c := 48 + k / 10) hR)).1
      show 10 * (bv q - 48) + bv (q + 1) - 48 = k
      omega
theorem rdD (hB : Bt len f f bv) (l0 : 0 ≤ len) (l1 : len ≤ 400) {q e : Int} {k : Nat} {M : List Nat} {c : Nat} (hk : k ≤ 99) (ke : (k : Int) ≤ e) (e9 : e ≤ 99) (q0 : 0 ≤ q) (hR : Rs bv len q (dgN k ++ c :: M)) (hv : vnz bv q (dgN k).length = k) (fp : Int32) : mX5_readDigits f 0 fp (z3 len) (z3 (q + (dgN k).length)) (z3 q) 2 (z3 e) = some (z3 k, 0, fp) := by
  obtain ⟨e1, e2⟩ := Rs.app hR
  have e3 := Rs.hd e1
  have hL := dgN_len k
  have N := num3d hB l0 l1 (p := q) (q := q + (dgN k).length) q0 (by omega) (by omega) (by omega)
  unfold mX5_readDigits
  rw [if_pos rfl, l3_0, N, Option.bind_some, show (q + ((dgN k).length : Int) - q).toNat = (dgN k).length by omega, hv, if_pos ((z3le (by omega) (by omega) (by omega) (by omega)).2 ke)]
theorem rdS (hB : Bt len f f bv) (l0 : 0 ≤ len) (l1 : len ≤ 400) {p e v : Int} {M : List Nat} {c : Nat} (p0 : 0 ≤ p) (v0 : -e ≤ v) (v1 : v ≤ e) (e9 : e ≤ 99) (hR : Rs bv len p (32 :: (dcN v ++ c :: M))) (hc : ¬ dgt c) (fp st tk : Int32) : ∃ (q : Int) (st1 : Int32), mX5_readSigned f 0 fp (z3 len) (z3 p) st tk (z3 e) = some (z3 v, 0, fp, z3 q, st1, 2) ∧ 0 ≤ q ∧ Rs bv len q (c :: M) := by
  have b0 := (Rs.hd hR).1
  have hR1 := Rs.tl hR
  have hg : Gp bv p (p + 1) := Or.inr ⟨rfl, b0⟩
  by_cases w : v < 0
  · have ed : dcN v = 45 :: dgN v.natAbs := if_pos w
    rw [ed] at hR1
    have hR2 : Rs bv len (p + 1 + 1) (dgN v.natAbs ++ c :: M) := Rs.tl (c := 45) hR1
    have b1 := Rs.hd (M := dgN v.natAbs ++ c :: M) hR1
    obtain ⟨s1, s2, s3⟩ := rsD hB l0 l1 (p := p + 1 + 1) (q := p + 1 + 1) (k := v.natAbs) (by omega) (by omega) (Or.inl rfl) hR2 hc (z3 (p + 1)) 3
    refine ⟨p + 1 + 1 + (dgN v.natAbs).length, z3 (p + 1 + 1), ?_, by omega, s2⟩
    unfold mX5_readSigned
    rw [(stO hB l0 l1 p0 hg b1.2 st tk).1 b1.1, Option.bind_some, if_pos rfl, s1, Option.bind_some, rdD hB l0 l1 (by omega) (by omega) e9 (by omega) hR2 s3, Option.bind_some, z3n, show -((v.natAbs : Nat) : Int) = v by omega]
  · have ed : dcN v = dgN v.natAbs := if_neg w
    rw [ed] at hR1
    obtain ⟨s1, s2, s3⟩ := rsD hB l0 l1 (p := p) (q := p + 1) (k := v.natAbs) (by omega) p0 hg hR1 hc st tk
    refine ⟨p + 1 + (dgN v.natAbs).length, z3 (p + 1), ?_, by omega, s2⟩
    unfold mX5_readSigned
    rw [s1, Option.bind_some, if_neg (show ¬ (2 : Int32) = 3 by decide), rdD hB l0 l1 (by omega) (by omega) e9 (by omega) hR1 s3, Option.bind_some, show ((v.natAbs : Nat) : Int) = v by omega]
end PRS
def ptL : List Nat := [112, 111, 105, 110, 116]
def plL : List Nat := [112, 108, 97, 105, 110]
def wtL : List Nat := [119, 101, 105, 103, 104, 116]
theorem stm_f (q : Int × Int × Int) (M : List Nat) : stm q ++ M = ptL ++ 32 :: (dcN q.1 ++ 32 :: (dcN q.2.1 ++ 32 :: (wtL ++ 32 :: (dcN q.2.2 ++ 59 :: M)))) := by
  unfold stm
  simp only [List.append_assoc]
  rfl
theorem ap3 {C : Int} (h0 : 0 ≤ C) (h5 : C < 5) (ws xs ys : Nat → Int32) (x y w : Int32) : mX3_append (z3 C) ws xs ys x y w = some (z3 (C + 1), upd ws C.toNat w, upd xs C.toNat x, upd ys C.toNat y) := by
  have g0 : ¬ z3 C < 0 := fun q => by have := (z3lt (by omega) (by omega) (by omega) (by omega)).1 (l3_0 ▸ q); omega
  have g1 : ¬ (5 : Int32) ≤ z3 C := fun q => by have := (z3le (by omega) (by omega) (by omega) (by omega)).1 (l3_5 ▸ q); omega
  have g2 : z3 C < (5 : Int32) := l3_5 ▸ (z3lt (by omega) (by omega) (by omega) (by omega)).2 h5
  have g3 : ¬ (z3 C < 0 ∨ 5 ≤ Int32.toNatClampNeg (z3 C)) := gix h0 (by omega) (by decide)
  unfold mX3_append mX3_isFull mX3_putX mX3_putY mX3_putW
  rw [if_pos g2, Option.bind_some, if_pos rfl, l3_1, z3a, z3s, show C + 1 - 1 = C by omega, if_neg g0, if_neg g1, if_neg g3, Option.bind_some, if_neg g0, if_neg g1, if_neg g3, Option.bind_some, if_neg g0, if_neg g1, if_neg g3, Option.bind_some, z3nat (by omega) (by omega)]
section PR2
variable {len : Int} {f : Nat → Int32} {bv : Int → Int}
theorem rdP (hB : Bt len f f bv) (l0 : 0 ≤ len) (l1 : len ≤ 400) {p x y w : Int} {M : List Nat} {C : Int} {X : Int → Int} {ws xs ys : Nat → Int32} (p0 : 0 ≤ p) (h0 : 0 ≤ C) (h5 : C < 5) (hx : En 0 C xs X) (hr : Rz C (-9) 9 X) (hf : Fre C X (-1) x) (x0 : -9 ≤ x) (x1 : x ≤ 9) (y0 : -20 ≤ y) (y1 : y ≤ 20) (w0 : -9 ≤ w) (w1 : w ≤ 9) (hR : Rs bv len p (32 :: (dcN x ++ 32 :: (dcN y ++ 32 :: (wtL ++ 32 :: (dcN w ++ 59 :: M)))))) (fp st tk : Int32) : ∃ (q : Int) (st1 : Int32), mX5_readPoint f 0 fp (z3 len) (z3 p) st tk (z3 C) ws xs ys = some (1, 0, fp, z3 q, st1, 4, z3 (C + 1), upd ws C.toNat (z3 w), upd xs C.toNat (z3 x), upd ys C.toNat (z3 y)) ∧ 0 ≤ q ∧ Rs bv len q M := by
  obtain ⟨q1, s1, e1, p1, r1⟩ := rdS hB l0 l1 (e := 9) p0 x0 x1 (by omega) hR (fun w => by unfold dgt at w; omega) fp st tk
  obtain ⟨q2, s2, e2, p2, r2⟩ := rdS hB l0 l1 (e := 20) p1 y0 y1 (by omega) r1 (fun w => by unfold dgt at w; omega) fp s1 2
  have b2 := (Rs.hd r2).1
  obtain ⟨e3, r3⟩ := rsA hB l0 l1 (p := q2) (q := q2 + 1) (A := wtL) p2 (Or.inr ⟨rfl, b2⟩) (Rs.tl r2) (by decide) (by decide) (by decide) (fun w => by unfold lts at w; omega) s2 2
  have e4 := isw1 hB l0 l1 (i := 4) (A := wtL) (q := q2 + 1) (by omega) (Rs.tl r2) rfl (by decide +kernel) (by decide)
  have q30 : 0 ≤ q2 + 1 + (wtL.length : Int) := by omega
  obtain ⟨q5, s5, e5, p5, r5⟩ := rdS hB l0 l1 (e := 9) q30 w0 w1 (by omega) r3 (fun w => by unfold dgt at w; omega) fp (z3 (q2 + 1)) 1
  have b5 := Rs.hd r5
  have e6 := (stO hB l0 l1 p5 (Or.inl rfl) b5.2 s5 2).2 b5.1
  refine ⟨q5 + 1, z3 q5, ?_, by omega, Rs.tl r5⟩
  have IF : mX3_isFull (z3 C) = some 0 := by
    unfold mX3_isFull
    rw [if_pos (l3_5 ▸ (z3lt (by omega) (by omega) (by omega) (by omega)).2 h5)]
  unfold mX5_readPoint
  rw [IF, Option.bind_some, if_pos rfl, l3_9z, e1, Option.bind_some, if_pos rfl, find3_n h0 (by omega) hx hr (fun k k0 k1 => hf k k0 k1 (by omega)) (by omega) (by omega), Option.bind_some, if_pos rfl, if_pos rfl, l3_20z, e2, Option.bind_some, if_pos rfl, e3, Option.bind_some, e4, Option.bind_some, if_neg n10, e5, Option.bind_some, if_pos rfl, e6, Option.bind_some, ap3 h0 h5, Option.bind_some, if_pos rfl]
theorem isw0 (hB : Bt len f f bv) (l0 : 0 ≤ len) (l1 : len ≤ 400) {q : Int} {M : List Nat} (q0 : 0 ≤ q) (hR : Rs bv len q (plL ++ M)) : mX5_isWord f (z3 len) (z3 (q + plL.length)) (z3 q) 1 0 = some 0 := by
  have c0 := Rs.hd (c := 112) (M := [108, 97, 105, 110] ++ M) hR
  have c1 := Rs.hd (c := 108) (M := [97, 105, 110] ++ M) (Rs.tl (c := 112) (M := [108, 97, 105, 110] ++ M) hR)
  unfold mX5_isWord
  rw [if_pos rfl, z3s, if_pos (by rw [show q + (plL.length : Int) - q = (5 : Nat) by show q + 5 - q = 5; omega]; rfl)]
  rw [FU_s, lX5_isWord_28, if_neg (by decide), l3_0, z3a, byte3 hB l0 l1 (by omega) (by omega), Option.bind_some, if_neg (by decide), if_pos (by rw [show q + 0 = q by omega, c0.1]; decide)]
  rw [show FU1 = 2046 + 1 from rfl, lX5_isWord_28, l3_1, z3a, if_neg (by decide), z3a, byte3 hB l0 l1 (by omega) (by omega), Option.bind_some, if_neg (by decide), if_neg (by rw [show q + (0 + 1) = q + 1 by omega, c1.1]; decide)]
  rfl
/-- the whole text -/
theorem rdT9 (hB : Bt len f f bv) (l0 : 0 ≤ len) (l1 : len ≤ 400) {N : Int} {ps : List (Int × Int × Int)} (hps : PSk N ps) (N5 : N ≤ 5) : ∀ (ps2 ps1 : List (Int × Int × Int)) (n : Nat) (k p : Int) (st tk c d md : Int32) (ws xs ys : Nat → Int32), ps = ps1 ++ ps2 → 0 ≤ p → Rs bv len p (txs ps2 ++ litL 10) → N3 (azs ps1) c d md ws xs ys → 0 ≤ k → k + ps2.length ≤ 100 →
    ∃ nx st1 tk1 c1 d1 md1 ws1 xs1 ys1, lX5_read_29 (z3 len) f (n + ps2.length + 3) 1 (z3 k) 0 (-1) (z3 p) st tk c d md ws xs ys = some (0, -1, nx, st1, tk1, c1, d1, md1, ws1, xs1, ys1) ∧ N3 (azs ps) c1 d1 md1 ws1 xs1 ys1 := by
  intro ps2
  induction ps2 with
  | nil =>
    intro ps1 n k p st tk c d md ws xs ys he p0 hR h3 k0 k1
    rw [List.append_nil] at he
    subst he
    have hR : Rs bv len p (plL ++ 59 :: []) := hR
    obtain ⟨e1, r1⟩ := rsA hB l0 l1 (p := p) (q := p) (A := plL) p0 (Or.inl rfl) hR (by decide) (by decide) (by decide) (fun w => by unfold lts at w; omega) st tk
    have e2 := isw0 hB l0 l1 p0 hR
    have e3 := isw1 hB l0 l1 (i := 1) (A := plL) p0 hR rfl (by decide +kernel) (by decide)
    have b5 := Rs.hd r1
    have p5 : 0 ≤ p + (plL.length : Int) := by omega
    have e4 := (stO hB l0 l1 p5 (Or.inl rfl) b5.2 (z3 p) 1).2 b5.1
    have hl := (Rs.tl r1).2.1
    have hl : p + (plL.length : Int) + 1 = len := by
      have : (([] : List Nat).length : Int) = 0 := rfl
      omega
    rw [hl] at e4
    have SM : mX5_readSemicolon f 0 (-1) (z3 len) (z3 (p + plL.length)) (z3 p) 1 = some (1, 0, -1, z3 len, z3 (p + plL.length), 4) := by
      unfold mX5_readSemicolon
      rw [e4, Option.bind_some, if_pos rfl]
    obtain ⟨hc, hd, hm, hw, hx, hy⟩ := h3
    refine ⟨z3 (len + 1), z3 len, 5, c, d, 0, ws, xs, ys, ?_, hc, hd, by rw [hps.2.2.1]; rfl, hw, hx, hy⟩
    show lX5_read_29 (z3 len) f ((n + 2) + 1) 1 (z3 k) 0 (-1) (z3 p) st tk c d md ws xs ys = _
    rw [lX5_read_29, if_neg (fun w => by have := (z3lt (a := 400) (by omega) (by omega) (by omega) (by omega)).1 w; omega), if_neg n10, e1, Option.bind_some, if_neg (show ¬ (1 : Int32) = 5 by decide)]
    unfold mX5_readStatement
    rw [e2, Option.bind_some, if_pos rfl, e3, Option.bind_some, if_neg n10, if_pos rfl, SM, Option.bind_some, if_neg n10, Option.bind_some, if_neg n10]
    rw [show n + 2 = (n + 1) + 1 from rfl, lX5_read_29, l3_1, z3a, if_neg (fun w => by have := (z3lt (a := 400) (by omega) (by omega) (by omega) (by omega)).1 w; omega), if_neg (by decide), stE hB l0 l1, Option.bind_some, if_pos rfl, z3a]
    exact lpe3 n _ _ _ _ _ _ _ _ _ _ _ _
  | cons q ps2 ih =>
    intro ps1 n k p st tk c d md ws xs ys he p0 hR h3 k0 k1
    obtain ⟨hO, hM0, hD0, hC, hF⟩ := hps.2.2.2.2.2.2.2.2 ps1 q ps2 he
    obtain ⟨⟨x0, x1⟩, ⟨y0, y1⟩, ⟨w0, w1⟩⟩ := hps.2.2.2.2.2.2.1 q (by rw [he]; exact List.mem_append_right _ List.mem_cons_self)
    have hlen : (ps.length : Int) = N := hps.1
    have hlen2 : ps.length = ps1.length + (ps2.length + 1) := by rw [he, List.length_append, List.length_cons]
    have h5 : zC (azs ps1) < 5 := by omega
    have e : txs (q :: ps2) ++ litL 10 = stm q ++ (txs ps2 ++ litL 10) := by
      show (stm q ++ (List.map stm ps2).flatten) ++ litL 10 = stm q ++ ((List.map stm ps2).flatten ++ litL 10)
      rw [List.append_assoc]
    rw [e, stm_f] at hR
    obtain ⟨e1, r1⟩ := rsA hB l0 l1 (p := p) (q := p) (A := ptL) p0 (Or.inl rfl) hR (by decide) (by decide) (by decide) (fun w => by unfold lts at w; omega) st tk
    have e2 := isw1 hB l0 l1 (i := 0) (A := ptL) p0 hR rfl (by decide +kernel) (by decide)
    have p5 : 0 ≤ p + (ptL.length : Int) := by omega
    have h39 := h3
    obtain ⟨rfl, hd, hm, hw, hx, hy⟩ := h3
    have h0 := hO.1
    obtain ⟨q6, s6, e6, p6, r6⟩ := rdP hB l0 l1 (ws := ws) (ys := ys) p5 h0 h5 hx hO.2.2.2.2.2.2.1 hF (by omega) (by omega) y0 y1 (by omega) (by omega) r1 (-1) (z3 p) 1
    have h3' := h39.ap h0 q.1 q.2.1 q.2.2
    rw [← azs_a ps1 q] at h3'
    obtain ⟨nx, st1, tk1, c1, d1, md1, ws1, xs1, ys1, E, E2⟩ := ih (ps1 ++ [q]) n (k + 1) q6 s6 4 _ _ _ _ _ _ (by rw [he, List.append_assoc]; rfl) p6 r6 h3' (by omega) (by rw [List.length_cons] at k1; omega)
    refine ⟨nx, st1, tk1, c1, d1, md1, ws1, xs1, ys1, ?_, E2⟩
    rw [← E]
    show lX5_read_29 (z3 len) f ((n + ps2.length + 3) + 1) 1 (z3 k) 0 (-1) (z3 p) st tk (z3 (zC (azs ps1))) d md ws xs ys = _
    rw [List.length_cons] at k1
    rw [lX5_read_29, if_neg (fun w => by have := (z3lt (a := 400) (by omega) (by omega) (by omega) (by omega)).1 w; omega), if_neg n10, e1, Option.bind_some, if_neg (show ¬ (1 : Int32) = 5 by decide)]
    unfold mX5_readStatement
    rw [e2, Option.bind_some, if_neg n10, e6, Option.bind_some, if_neg (fun z => z (Or.inr rfl)), Option.bind_some, if_neg n10, l3_1, z3a]
end PR2
