/-! whole numbers of 64 bits, divided -/
theorem i64_neg (x : Int64) : x < 0 ↔ x.toBitVec.msb = true := by
  rw [Int64.lt_iff_toBitVec_slt, ← BitVec.slt_zero_eq_msb]; rfl
theorem i64_xs {x y : Int64} (hy : 0 < y) : (x ^^^ y < 0) ↔ x < 0 := by
  have h : ¬ y < 0 := by
    rw [Int64.lt_iff_toInt_lt] at hy ⊢
    omega
  rw [i64_neg] at h
  rw [i64_neg, i64_neg, Int64.toBitVec_xor, BitVec.msb_xor]
  simp [h]
theorem i64_div {x y : Int64} (hy : 0 < y) : (x / y).toInt = x.toInt.tdiv y.toInt := by
  rw [Int64.toInt_div]
  have h1 : 0 < y.toInt := by rw [Int64.lt_iff_toInt_lt] at hy; exact hy
  have h2 := x.toInt_lt
  have h3 := x.le_toInt
  have h4 : x.toInt.tdiv y.toInt = (if 0 ≤ x.toInt then x.toInt / y.toInt else -((-x.toInt) / y.toInt)) := by
    split
    · rename_i h; exact Int.tdiv_eq_ediv_of_nonneg h
    · rename_i h
      rw [show x.toInt = -(-x.toInt) by omega, Int.neg_tdiv, Int.tdiv_eq_ediv_of_nonneg (by omega)]
      simp
  have h5 : -(2 ^ 63) ≤ x.toInt.tdiv y.toInt ∧ x.toInt.tdiv y.toInt < 2 ^ 63 := by
    rw [h4]
    split
    · rename_i h
      have := Int.ediv_le_self y.toInt h
      have := Int.ediv_nonneg h (by omega : 0 ≤ y.toInt)
      omega
    · rename_i h
      have := Int.ediv_le_self y.toInt (show 0 ≤ -x.toInt by omega)
      have := Int.ediv_nonneg (show 0 ≤ -x.toInt by omega) (by omega : 0 ≤ y.toInt)
      omega
  exact Int.bmod_eq_of_le (by omega) (by omega)
theorem i64_rem {x y : Int64} (hy : 0 < y) : (x - x / y * y).toInt = x.toInt.tmod y.toInt := by
  have h1 : 0 < y.toInt := by rw [Int64.lt_iff_toInt_lt] at hy; exact hy
  rw [Int64.toInt_sub, Int64.toInt_mul, i64_div hy, Int.sub_bmod_bmod]
  have e : x.toInt - x.toInt.tdiv y.toInt * y.toInt = x.toInt.tmod y.toInt := by
    have := Int.tmod_add_tdiv_mul x.toInt y.toInt
    omega
  rw [e]
  have h2 := x.toInt_lt
  have h3 := x.le_toInt
  have h4 := y.toInt_lt
  have h5 := Int.tmod_lt_of_pos x.toInt h1
  have h6 := Int.lt_tmod_of_pos x.toInt h1
  exact Int.bmod_eq_of_le (by omega) (by omega)
theorem i64_sg {x y : Int64} (hy : 0 < y) : (x ^^^ y < 0 ∧ x - x / y * y ≠ 0) ↔ x - x / y * y < 0 := by
  have h1 : 0 < y.toInt := by rw [Int64.lt_iff_toInt_lt] at hy; exact hy
  rw [i64_xs hy]
  rw [Int64.lt_iff_toInt_lt, Int64.lt_iff_toInt_lt, Ne, ← Int64.toInt_inj, i64_rem hy]
  show (x.toInt < 0 ∧ ¬ x.toInt.tmod y.toInt = 0) ↔ x.toInt.tmod y.toInt < 0
  rcases Int.lt_or_le x.toInt 0 with h | h
  · have h2 : x.toInt.tmod y.toInt ≤ 0 := by
      rw [show x.toInt = -(-x.toInt) by omega, Int.neg_tmod]
      have := Int.tmod_nonneg y.toInt (show 0 ≤ -x.toInt by omega)
      omega
    omega
  · have h2 := Int.tmod_nonneg y.toInt h
    omega
theorem i64_r1 (x q y : Int64) : x - (q - 1) * y = x - q * y + y := by grind
theorem i64_r2 (x q y : Int64) : (q * y = x) ↔ (x - q * y = 0) := by grind
/-- towards what is less -/
def fdv (a b : Int64) : Int64 := a / b - (if a - a / b * b < 0 then 1 else 0)
def fmd (a b : Int64) : Int64 := a - fdv a b * b
abbrev OOB : String := "java/lang/IndexOutOfBoundsException"
abbrev NSE : String := "java/util/NoSuchElementException"
section QUERY
variable {X : Nat × (Nat → Int32)} {d k pc : Nat} {L : am_L} {st : List Value} {Q : am_R → Prop} {S : am_S}
theorem wp_ldiv {len a b w : Nat} {cst : Int} {x y : Int64} (hi : am_P k pc = some (.ldiv, len, a, b, w, cst)) (hy : y ≠ 0) (h : wp X d k (pc + len) L (.long (x / y) :: st) S Q) : wp X d k pc L (.long y :: .long x :: st) S Q :=
  wp_step hi (by simp [am_step, am_lb, hy]) h
theorem wp_lrem {len a b w : Nat} {cst : Int} {x y : Int64} (hi : am_P k pc = some (.lrem, len, a, b, w, cst)) (hy : y ≠ 0) (h : wp X d k (pc + len) L (.long (x - x / y * y) :: st) S Q) : wp X d k pc L (.long y :: .long x :: st) S Q :=
  wp_step hi (by simp [am_step, am_lb, hy]) h
theorem wp_idiv {len a b w : Nat} {cst : Int} {x y : Int32} (hi : am_P k pc = some (.idiv, len, a, b, w, cst)) (hy : y ≠ 0) (h : wp X d k (pc + len) L (.int (x / y) :: st) S Q) : wp X d k pc L (.int y :: .int x :: st) S Q :=
  wp_step hi (by simp [am_step, am_ib, hy]) h
theorem wp_tswd {dflt lo hi : Int} {offs : Array Int} {len a b w q : Nat} {cst : Int} {x : Int32} (hh : am_P k pc = some (.tableswitch dflt lo hi offs, len, a, b, w, cst)) (hx : x.toInt < lo ∨ hi < x.toInt) (hq : ((pc : Int) + dflt).toNat = q) (h : wp X d k q L st S Q) : wp X d k pc L (.int x :: st) S Q :=
  wp_tsw hh (by unfold am_sw; dsimp only; rw [if_pos hx]; exact hq) h
theorem tcase (x : Int32) (n : Nat) (hn : n < 2 ^ 31) : (∃ k, k ≤ n ∧ x = nI k) ∨ (x.toInt < 0 ∨ (n : Int) < x.toInt) := by
  by_cases h : x.toInt < 0 ∨ (n : Int) < x.toInt
  · exact Or.inr h
  · refine Or.inl ⟨x.toInt.toNat, by omega, Int32.toInt_inj.mp ?_⟩
    rw [nI_toInt (by omega)]
    omega
/-- a place below n -/
def idx (x : Int32) (n : Nat) : Option Nat := if 0 ≤ x.toInt ∧ x.toInt < n then some x.toInt.toNat else none
theorem idx_some {x : Int32} {n k : Nat} (h : idx x n = some k) (hn : n < 2 ^ 31) : x = nI k ∧ k < n := by
  unfold idx at h
  split at h
  · cases h
    refine ⟨Int32.toInt_inj.mp ?_, by omega⟩
    rw [nI_toInt (by omega)]
    omega
  · cases h
theorem idx_nI {n k : Nat} (h : k < n) (hn : n < 2 ^ 31) : idx (nI k) n = some k := by
  unfold idx
  rw [nI_toInt (by omega)]
  rw [if_pos (by omega)]
  simp
theorem idx_neg {x : Int32} {n : Nat} (h : x < 0) : idx x n = none := by
  unfold idx
  rw [Int32.lt_iff_toInt_lt] at h
  rw [if_neg]
  rintro ⟨h1, h2⟩
  have h3 : x.toInt < 0 := h
  omega
theorem idx_ge {x : Int32} {n : Nat} (hn : n < 2 ^ 31) (h : ¬ x < nI n) : idx x n = none := by
  unfold idx
  rw [Int32.lt_iff_toInt_lt, nI_toInt hn] at h
  rw [if_neg]
  rintro ⟨h1, h2⟩
  omega
theorem idx_ok {x : Int32} {n : Nat} (hn : n < 2 ^ 31) (h0 : ¬ x < 0) (h : x < nI n) : ∃ k, idx x n = some k := by
  unfold idx
  rw [Int32.lt_iff_toInt_lt, nI_toInt hn] at h
  rw [Int32.lt_iff_toInt_lt] at h0
  have h3 : ¬ x.toInt < 0 := h0
  rw [if_pos ⟨by omega, h⟩]
  exact ⟨_, rfl⟩
theorem q_floorDiv {x y : Int64} (hy : 0 < y) (hq : Q (.inl (some (.long (fdv x y))), S)) : ev X (d + 1) 162 [.long x, .long y] S Q := by
  refine ev_wp (L0 := [some (.long x), none, some (.long y), none, none, none]) (Nat.le_of_ble_eq_true rfl) rfl ?_
  have hy0 : y ≠ 0 := fun e9 => by rw [e9] at hy; exact absurd hy (by decide)
  have hs := i64_sg (x := x) hy
  have r1 : ¬ x - x / y * y < 0 → x / y = fdv x y := fun h9 => by unfold fdv; rw [if_neg h9]; exact (Int64.sub_zero _).symm
  iterate 2 refine wp_step rfl rfl ?_
  refine wp_ldiv rfl (hy0) ?_
  iterate 6 refine wp_step rfl rfl ?_
  refine wp_if rfl (fun c0 => ?_) (fun c0 => ?_)
  · replace c0 := l_ge_t c0
    refine wp_step rfl rfl ?_
    refine wp_lret rfl rfl (by rw [← r1 (fun h9 => absurd (hs.mpr h9).1 (Int64.not_lt.mpr c0))] at hq; exact hq)
  · replace c0 := l_ge_f c0
    iterate 5 refine wp_step rfl rfl ?_
    refine wp_if rfl (fun c1 => ?_) (fun c1 => ?_)
    · replace c1 := l_eq_t c1
      refine wp_step rfl rfl ?_
      refine wp_lret rfl rfl (by rw [← r1 (fun h9 => (hs.mpr h9).2 ((i64_r2 x (x / y) y).mp c1))] at hq; exact hq)
    · replace c1 := l_eq_f c1
      iterate 3 refine wp_step rfl rfl ?_
      refine wp_lret rfl rfl (by
        have h9 : x - x / y * y < 0 := hs.mp ⟨Int64.not_le.mp c0, fun h8 => c1 ((i64_r2 x (x / y) y).mpr h8)⟩
        have e9 : fdv x y = x / y - 1 := by unfold fdv; rw [if_pos h9]
        rw [e9] at hq
        exact hq)
theorem q_floorMod {x y : Int64} (hy : 0 < y) (hq : Q (.inl (some (.long (fmd x y))), S)) : ev X (d + 1) 163 [.long x, .long y] S Q := by
  refine ev_wp (L0 := [some (.long x), none, some (.long y), none, none, none]) (Nat.le_of_ble_eq_true rfl) rfl ?_
  have hy0 : y ≠ 0 := fun e9 => by rw [e9] at hy; exact absurd hy (by decide)
  have hs := i64_sg (x := x) hy
  have r1 : ¬ x - x / y * y < 0 → fmd x y = x - x / y * y := fun h9 => by unfold fmd fdv; rw [if_neg h9, Int64.sub_zero]
  have r2 : x - x / y * y < 0 → fmd x y = x - x / y * y + y := fun h9 => by unfold fmd fdv; rw [if_pos h9]; exact i64_r1 x (x / y) y
  iterate 2 refine wp_step rfl rfl ?_
  refine wp_lrem rfl (hy0) ?_
  iterate 6 refine wp_step rfl rfl ?_
  refine wp_if rfl (fun c0 => ?_) (fun c0 => ?_)
  · replace c0 := l_ge_t c0
    refine wp_step rfl rfl ?_
    refine wp_lret rfl rfl (by rw [r1 (fun h9 => absurd (hs.mpr h9).1 (Int64.not_lt.mpr c0))] at hq; exact hq)
  · replace c0 := l_ge_f c0
    iterate 3 refine wp_step rfl rfl ?_
    refine wp_if rfl (fun c1 => ?_) (fun c1 => ?_)
    · replace c1 := l_eq_t c1
      refine wp_step rfl rfl ?_
      refine wp_lret rfl rfl (by rw [r1 (fun h9 => (hs.mpr h9).2 c1)] at hq; exact hq)
    · replace c1 := l_eq_f c1
      iterate 3 refine wp_step rfl rfl ?_
      refine wp_lret rfl rfl (by
        have h9 : x - x / y * y < 0 := hs.mp ⟨Int64.not_le.mp c0, c1⟩
        rw [r2 h9] at hq
        exact hq)
end QUERY
