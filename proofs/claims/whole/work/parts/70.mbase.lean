/-! THE MODEL: its object as whole numbers, and its reader -/
def mrf (st li : Int64) : Nat → Option Value := fun k => match k with
  | 1 => some (.ref 409)
  | 4 => some (.ref 410)
  | 5 => some (.ref 411)
  | 6 => some (.ref 412)
  | 7 => some (.ref 413)
  | 8 => some (.ref 414)
  | 9 => some (.ref 415)
  | 10 => some (.ref 416)
  | 11 => some (.ref 417)
  | 12 => some (.ref 418)
  | 13 => some (.ref 419)
  | 14 => some (.ref 420)
  | 15 => some (.ref 421)
  | 16 => some (.ref 422)
  | 17 => some (.ref 423)
  | 18 => some (.ref 424)
  | 30 => some (.ref 425)
  | 31 => some (.ref 426)
  | 32 => some (.ref 427)
  | 37 => some (.ref 428)
  | 42 => some (.ref 429)
  | 43 => some (.ref 430)
  | 44 => some (.ref 431)
  | 46 => some (.ref 432)
  | 48 => some (.ref 433)
  | 50 => some (.ref 434)
  | 51 => some (.ref 435)
  | 52 => some (.ref 436)
  | 53 => some (.ref 437)
  | 54 => some (.ref 438)
  | 55 => some (.ref 439)
  | 34 => some (.long st)
  | 56 => some (.long li)
  | _ => none
def mkG (I : Nat → Int32) (st li : Int64) : Nat → Value := fun k => match mrf st li k with
  | some v => v
  | none => .int (I k)
theorem mkG_i {I : Nat → Int32} {st li : Int64} {k : Nat} {z : Int32} (hk : mrf st li k = none) : va_up (mkG I st li) k (.int z) = mkG (upd I k z) st li := by
  funext j
  unfold va_up mkG
  by_cases h : j = k
  · subst h; rw [if_pos rfl, hk]; dsimp only; rw [pk_us]
  · rw [if_neg h, pk_un h]
theorem mrf_34 {st li z : Int64} {j : Nat} (h : j ≠ 34) : mrf z li j = mrf st li j := by
  unfold mrf
  split <;> first | rfl | exact absurd rfl h
theorem mrf_56 {st li z : Int64} {j : Nat} (h : j ≠ 56) : mrf st z j = mrf st li j := by
  unfold mrf
  split <;> first | rfl | exact absurd rfl h
theorem mkG_34 {I : Nat → Int32} {st li z : Int64} : va_up (mkG I st li) 34 (.long z) = mkG I z li := by
  funext j
  unfold va_up mkG
  by_cases h : j = 34
  · subst h; rfl
  · rw [if_neg h, mrf_34 (st := st) (li := li) (z := z) h]
theorem mkG_56 {I : Nat → Int32} {st li z : Int64} : va_up (mkG I st li) 56 (.long z) = mkG I st z := by
  funext j
  unfold va_up mkG
  by_cases h : j = 56
  · subst h; rfl
  · rw [if_neg h, mrf_56 (st := st) (li := li) (z := z) h]
abbrev moC (I : Nat → Int32) (st li : Int64) : am_C := mod (mkG I st li)
/-- nothing has changed but the fields of ks -/
def gf (ks : List Nat) (I I' : Nat → Int32) : Prop := ∀ j, j ∉ ks → I' j = I j
theorem gf_refl (ks : List Nat) (I : Nat → Int32) : gf ks I I := fun _ _ => rfl
theorem gf_trans {ks : List Nat} {I J K : Nat → Int32} (h : gf ks I J) (h2 : gf ks J K) : gf ks I K := fun j hj => (h2 j hj).trans (h j hj)
theorem gf_mono {ks ls : List Nat} {I J : Nat → Int32} (h : gf ks I J) (hk : ∀ j, j ∈ ks → j ∈ ls) : gf ls I J := fun j hj => h j (fun h9 => hj (hk j h9))
theorem gf_up {ks : List Nat} {I J : Nat → Int32} {k : Nat} {z : Int32} (h : gf ks I J) (hk : k ∈ ks) : gf ks I (upd J k z) := fun j hj => (pk_un (fun e => hj (by rw [e]; exact hk))).trans (h j hj)
def mBy (S : am_S) (b : Nat → Nat) (w : Nat) : Prop := ∃ mb, am_get S 410 = some (iA 1920 mb) ∧ ∀ j, j < 960 → mb (960 * w + j) = nI (b j)
theorem mBy_fr {js : List Nat} {S T : am_S} {b : Nat → Nat} {w : Nat} (h : mBy S b w) (hf : fr js S T) (hj : 410 ∉ js) : mBy T b w := by
  obtain ⟨mb, h1, h2⟩ := h
  exact ⟨mb, by rw [fr_get hf hj]; exact h1, h2⟩
/-- the model reads: at p, up to lim, no fault -/
def mR (S : am_S) (I : Nat → Int32) (st li : Int64) (b : Nat → Nat) (w p lim : Nat) : Prop := am_get S 408 = some (moC I st li) ∧ mBy S b w ∧ I 19 = nI w ∧ I 21 = nI p ∧ I 22 = nI lim ∧ I 25 = 0 ∧ w ≤ 1 ∧ p ≤ 960 ∧ lim ≤ 960
/-- the model has a fault -/
def mX (S : am_S) (I : Nat → Int32) (st li : Int64) (k : Int32) (pl : Nat) : Prop := am_get S 408 = some (moC I st li) ∧ I 25 = k ∧ k ≠ 0 ∧ I 26 = nI pl
theorem mR_fr {js : List Nat} {S T : am_S} {I : Nat → Int32} {st li : Int64} {b : Nat → Nat} {w p lim : Nat} (h : mR S I st li b w p lim) (hf : fr js S T) (h1 : 408 ∉ js) (h2 : 410 ∉ js) : mR T I st li b w p lim :=
  ⟨by rw [fr_get hf h1]; exact h.1, mBy_fr h.2.1 hf h2, h.2.2⟩
theorem mX_fr {js : List Nat} {S T : am_S} {I : Nat → Int32} {st li : Int64} {k : Int32} {pl : Nat} (h : mX S I st li k pl) (hf : fr js S T) (h1 : 408 ∉ js) : mX T I st li k pl :=
  ⟨by rw [fr_get hf h1]; exact h.1, h.2⟩
theorem nI_sh8 {a c : Nat} (ha : a < 2 ^ 20) (hc : c < 256) : (nI a <<< ((8 : Int32) &&& 31)) ||| nI c = nI (a * 256 + c) := by
  rw [show ((8 : Int32) &&& 31) = (8 : Int32) from by decide, pk_shlN 8 8 (by decide) (by omega), nI_or]
  have h := Nat.two_pow_add_eq_or_of_lt (i := 8) (b := c) (by omega) a
  rw [show a * 2 ^ 8 = 2 ^ 8 * a by omega, ← h, show 2 ^ 8 * a + c = a * 256 + c by omega]
theorem lN_sh16 {a c : Nat} (ha : a < 65536) (hc : c < 65536) : (lN a <<< ((16 : Int32).toInt64 &&& 63)) ||| lN c = lN (a * 65536 + c) := by
  apply Int64.toBitVec_inj.mp
  show (BitVec.ofNat 64 a <<< ((BitVec.ofNat 64 16).smod 64)) ||| BitVec.ofNat 64 c = BitVec.ofNat 64 (a * 65536 + c)
  rw [show (BitVec.ofNat 64 16).smod 64 = BitVec.ofNat 64 16 from by decide]
  apply BitVec.eq_of_toNat_eq
  rw [BitVec.toNat_or, BitVec.shiftLeft_eq', BitVec.toNat_shiftLeft, BitVec.toNat_ofNat, BitVec.toNat_ofNat, BitVec.toNat_ofNat, BitVec.toNat_ofNat, Nat.mod_eq_of_lt (show a < 2 ^ 64 by omega), Nat.mod_eq_of_lt (show c < 2 ^ 64 by omega), show (16 % 2 ^ 64 : Nat) = 16 from by decide, Nat.shiftLeft_eq, Nat.mod_eq_of_lt (show a * 2 ^ 16 < 2 ^ 64 by omega), Nat.mod_eq_of_lt (show a * 65536 + c < 2 ^ 64 by omega)]
  have h := Nat.two_pow_add_eq_or_of_lt (i := 16) (b := c) (by omega) a
  rw [show a * 2 ^ 16 = 2 ^ 16 * a by omega, ← h, show 2 ^ 16 * a + c = a * 65536 + c by omega]
theorem tw_w2 {B : Nat → Int32} {b : Nat → Nat} {p : Nat} (hb : ∀ j, b j < 256) (h1 : B p = nI (b p)) (h2 : B (p + 1) = nI (b (p + 1))) : tw B p = nI (w2 b p) := by
  unfold tw
  have e : w2 b p = b p * 256 + b (p + 1) := by
    show (0 * 256 + b (p + 0)) * 256 + b (p + 1) = _
    simp
  rw [h1, h2, nI_sh8 (by have := hb p; omega) (hb _), e]
theorem fo_w4 {B : Nat → Int32} {b : Nat → Nat} {p : Nat} (hb : ∀ j, b j < 256) (h : ∀ j, p ≤ j → j < p + 4 → B j = nI (b j)) : fo B p = lN (w4 b p) := by
  have l1 : w2 b p < 65536 := fxN_lt hb (p := p) 2
  have l2 : w2 b (p + 2) < 65536 := fxN_lt hb (p := p + 2) 2
  unfold fo
  rw [tw_w2 hb (h p (by omega) (by omega)) (h (p + 1) (by omega) (by omega)), tw_w2 hb (h (p + 2) (by omega) (by omega)) (h (p + 2 + 1) (by omega) (by omega)), nI_l (by omega), nI_l (by omega), lN_sh16 l1 l2]
  have e : w2 b p * 65536 + w2 b (p + 2) = w4 b p := by
    show ((0 * 256 + b (p + 0)) * 256 + b (p + 1)) * 65536 + ((0 * 256 + b (p + 2 + 0)) * 256 + b (p + 2 + 1)) = (((0 * 256 + b (p + 0)) * 256 + b (p + 1)) * 256 + b (p + 2)) * 256 + b (p + 3)
    rw [show p + 2 + 0 = p + 2 by omega, show p + 2 + 1 = p + 3 by omega]
    omega
  rw [e]
theorem hd_ne {B : Nat → Int32} {s e : Nat} {k : Int32} {pl : Nat} (h : hd B s e = .inl (k, pl)) : k ≠ 0 := by
  unfold hd at h
  split at h
  · cases h; decide
  · split at h
    · cases h; decide
    · split at h
      · cases h; decide
      · split at h
        · cases h; decide
        · cases h
section MBASE
variable {X : Nat × (Nat → Int32)} {d : Nat} {Q : am_R → Prop} {S : am_S} {I : Nat → Int32} {st li : Int64} {b : Nat → Nat} {w p lim : Nat}
theorem mB_ok {mb : Nat → Int32} (hb : ∀ j, b j < 256) (h : ∀ j, j < 960 → mb (960 * w + j) = nI (b j)) : bytesOK (mB mb w) := fun j hj => ⟨b j, hb j, h j hj⟩
theorem q_mget {q : Nat} (h : am_get S 408 = some (moC I st li)) (hB : mBy S b w) (h19 : I 19 = nI w) (hw : w ≤ 1) (hq9 : q < 960) (hq : Q (.inl (some (.int (nI (b q)))), S)) : ev X (d + 1) 95 [.ref 408, .int (nI q)] S Q := by
  obtain ⟨mb, h1, h2⟩ := hB
  refine ev_eq (m_get (w := w) h h1 rfl (congrArg Value.int h19) hw hq9) ?_
  rw [show mB mb w q = nI (b q) from h2 q hq9]
  exact hq
theorem q_mwrong {a c : Int32} (h : am_get S 408 = some (moC I st li)) (h25 : I 25 = 0) (hq : ∀ T, fr [408] S T → am_get T 408 = some (moC (upd (upd I 26 c) 25 a) st li) → Q (.inl none, T)) : ev X (d + 1) 96 [.ref 408, .int a, .int c] S Q := by
  refine ev_eq (m_wrong0 a c h (congrArg Value.int h25)) ?_
  rw [mkG_i rfl, mkG_i rfl]
  exact hq _ (fr_up (by simp)) (am_get_self h)
theorem q_mwrongX {a c k : Int32} (h : am_get S 408 = some (moC I st li)) (h25 : I 25 = k) (hk : k ≠ 0) (hq : Q (.inl none, S)) : ev X (d + 1) 96 [.ref 408, .int a, .int c] S Q :=
  ev_eq (m_wrong1 a c h (congrArg Value.int h25) hk) hq
theorem mR_at {T : am_S} {J : Nat → Int32} {q : Nat} (h : mR S I st li b w p lim) (hf : fr [408] S T) (hT : am_get T 408 = some (moC J st li)) (hg : gf [21] I J) (hq : J 21 = nI q) (hq9 : q ≤ 960) : mR T J st li b w q lim :=
  ⟨hT, mBy_fr h.2.1 hf (by decide), (hg 19 (by decide)).trans h.2.2.1, hq, (hg 22 (by decide)).trans h.2.2.2.2.1, (hg 25 (by decide)).trans h.2.2.2.2.2.1, h.2.2.2.2.2.2.1, hq9, h.2.2.2.2.2.2.2.2⟩
theorem q_mnext (hb : ∀ j, b j < 256) (h : mR S I st li b w p lim) (hret : ∀ T J, p < lim → fr [408] S T → gf [21] I J → mR T J st li b w (p + 1) lim → Q (.inl (some (.int (nI (b p)))), T)) (hbad : ∀ T J, lim ≤ p → fr [408] S T → gf [21, 25, 26] I J → mX T J st li 2 p → (∃ q, J 21 = nI q) → Q (.inl (some (.int 0)), T)) : ev X (d + 2) 97 [.ref 408] S Q := by
  obtain ⟨h0, ⟨mb, h1, h2⟩, h3, h4, h5, h6, h7, h8, h9⟩ := id h
  refine ev_conv (m_next0 (w := w) h0 h1 rfl (congrArg Value.int h3) h7 (congrArg Value.int h4) (congrArg Value.int h5) (congrArg Value.int h6) h8 h9) (fun r hr => ?_)
  rcases hr with ⟨c, rfl⟩ | ⟨c, rfl⟩
  · rw [show mB mb w p = nI (b p) from h2 p (by omega), mkG_i rfl]
    exact hret _ _ c (fr_up (by simp)) (gf_up (gf_refl _ _) (by simp)) (mR_at h (fr_up (by simp)) (am_get_self h0) (gf_up (gf_refl _ _) (by simp)) pk_us (by omega))
  · rw [mkG_i rfl, mkG_i rfl]
    exact hbad _ _ (by omega) (fr_up (by simp)) (gf_up (gf_up (gf_refl _ _) (by simp)) (by simp)) ⟨am_get_self h0, pk_us, by decide, (pk_un (by decide)).trans pk_us⟩ ⟨p, (pk_un (by decide)).trans ((pk_un (by decide)).trans h4)⟩
theorem q_mnextX {k : Int32} (h : am_get S 408 = some (moC I st li)) (h25 : I 25 = k) (hk : k ≠ 0) (hp : ∃ q, I 21 = nI q) (hl : ∃ q, I 22 = nI q) (hq : Q (.inl (some (.int 0)), S)) : ev X (d + 2) 97 [.ref 408] S Q := by
  obtain ⟨q, hq1⟩ := hp
  obtain ⟨q2, hq2⟩ := hl
  exact ev_eq (m_next1 (p := q) (lim := q2) h (congrArg Value.int hq1) (congrArg Value.int hq2) (congrArg Value.int h25) hk) hq
theorem q_mcomp (hb : ∀ j, b j < 256) (h : mR S I st li b w p lim) (hret : ∀ v q T J, num9 (Bn b) lim p = some (v, q) → fr [408] S T → gf [21] I J → mR T J st li b w q lim → Q (.inl (some (.long v)), T)) (hbad : ∀ v T J, num9 (Bn b) lim p = none → fr [408] S T → gf [21, 25, 26] I J → mX T J st li 2 p → (∃ q, J 21 = nI q) → Q (.inl (some (.long v)), T)) : ev X (d + 2) 98 [.ref 408] S Q := by
  obtain ⟨h0, ⟨mb, h1, h2⟩, h3, h4, h5, h6, h7, h8, h9⟩ := id h
  have ec : num9 (mB mb w) lim p = num9 (Bn b) lim p := num9_congr (fun j hj => h2 j (by omega))
  refine ev_conv (m_comp0 (w := w) h0 h1 rfl (congrArg Value.int h3) h7 (congrArg Value.int h4) (congrArg Value.int h5) (congrArg Value.int h6) h8 h9 (mB_ok hb h2)) (fun r hr => ?_)
  rw [ec] at hr
  rcases hr with ⟨v, q, e, rfl⟩ | ⟨e, v, q, hq, rfl⟩
  · rw [mkG_i rfl]
    have := num9_pos e
    exact hret v q _ _ e (fr_up (by simp)) (gf_up (gf_refl _ _) (by simp)) (mR_at h (fr_up (by simp)) (am_get_self h0) (gf_up (gf_refl _ _) (by simp)) pk_us (by omega))
  · rw [mkG_i rfl, mkG_i rfl, mkG_i rfl]
    exact hbad v _ _ e (fr_up (by simp)) (gf_up (gf_up (gf_up (gf_refl _ _) (by simp)) (by simp)) (by simp)) ⟨am_get_self h0, pk_us, by decide, (pk_un (by decide)).trans pk_us⟩ ⟨q, (pk_un (by decide)).trans ((pk_un (by decide)).trans pk_us)⟩
theorem q_mcompX {k : Int32} (h : am_get S 408 = some (moC I st li)) (h25 : I 25 = k) (hk : k ≠ 0) (hp : ∃ q, I 21 = nI q) (hq : Q (.inl (some (.long 0)), S)) : ev X (d + 2) 98 [.ref 408] S Q := by
  obtain ⟨q, hq1⟩ := hp
  exact ev_eq (m_comp1 (p := q) h (congrArg Value.int hq1) (congrArg Value.int h25) hk) hq
theorem q_msmall (hb : ∀ j, b j < 256) (h : mR S I st li b w p lim) (hret : ∀ n q T J, cnt (Bn b) lim p = some (n, q) → fr [408] S T → gf [21] I J → mR T J st li b w q lim → Q (.inl (some (.int (nI n))), T)) (hbad : ∀ T J, cnt (Bn b) lim p = none → fr [408] S T → gf [21, 25, 26] I J → mX T J st li 2 p → (∃ q, J 21 = nI q) → Q (.inl (some (.int 0)), T)) : ev X (d + 3) 99 [.ref 408] S Q := by
  obtain ⟨h0, ⟨mb, h1, h2⟩, h3, h4, h5, h6, h7, h8, h9⟩ := id h
  have ec : cnt (mB mb w) lim p = cnt (Bn b) lim p := cnt_congr (fun j hj => h2 j (by omega))
  refine ev_conv (m_small0 (w := w) h0 h1 rfl (congrArg Value.int h3) h7 (congrArg Value.int h4) (congrArg Value.int h5) (congrArg Value.int h6) h8 h9 (mB_ok hb h2)) (fun r hr => ?_)
  rw [ec] at hr
  rcases hr with ⟨v, q, e, rfl⟩ | ⟨e, q, hq, rfl⟩
  · rw [mkG_i rfl]
    have := cnt_lt e
    exact hret v q _ _ e (fr_up (by simp)) (gf_up (gf_refl _ _) (by simp)) (mR_at h (fr_up (by simp)) (am_get_self h0) (gf_up (gf_refl _ _) (by simp)) pk_us (by omega))
  · rw [mkG_i rfl, mkG_i rfl, mkG_i rfl]
    exact hbad _ _ e (fr_up (by simp)) (gf_up (gf_up (gf_up (gf_refl _ _) (by simp)) (by simp)) (by simp)) ⟨am_get_self h0, pk_us, by decide, (pk_un (by decide)).trans pk_us⟩ ⟨q, (pk_un (by decide)).trans ((pk_un (by decide)).trans pk_us)⟩
theorem q_msmallX {k : Int32} (h : am_get S 408 = some (moC I st li)) (h25 : I 25 = k) (hk : k ≠ 0) (hp : ∃ q, I 21 = nI q) (hq : Q (.inl (some (.int 0)), S)) : ev X (d + 3) 99 [.ref 408] S Q := by
  obtain ⟨q, hq1⟩ := hp
  exact ev_eq (m_small1 (p := q) h (congrArg Value.int hq1) (congrArg Value.int h25) hk) hq
theorem q_mtwo {q : Nat} (hb : ∀ j, b j < 256) (h : am_get S 408 = some (moC I st li)) (hB : mBy S b w) (h19 : I 19 = nI w) (hw : w ≤ 1) (hq9 : q + 1 < 960) (hq : Q (.inl (some (.int (nI (w2 b q)))), S)) : ev X (d + 2) 100 [.ref 408, .int (nI q)] S Q := by
  obtain ⟨mb, h1, h2⟩ := hB
  refine ev_eq (m_two (w := w) h h1 rfl (congrArg Value.int h19) hw hq9) ?_
  rw [tw_w2 hb (h2 q (by omega)) (h2 (q + 1) (by omega))]
  exact hq
theorem q_mfour {q : Nat} (hb : ∀ j, b j < 256) (h : am_get S 408 = some (moC I st li)) (hB : mBy S b w) (h19 : I 19 = nI w) (hw : w ≤ 1) (hq9 : q + 3 < 960) (hq : Q (.inl (some (.long (lN (w4 b q)))), S)) : ev X (d + 3) 101 [.ref 408, .int (nI q)] S Q := by
  obtain ⟨mb, h1, h2⟩ := hB
  refine ev_eq (m_four (w := w) h h1 rfl (congrArg Value.int h19) hw hq9) ?_
  rw [fo_w4 hb (fun j g1 g2 => h2 j (by omega))]
  exact hq
theorem ob_eq {g g' : Nat → Value} (h : ∀ j, j < 58 → g j = g' j) : mod g = mod g' := by
  unfold mod ob
  congr 2
  apply List.map_congr_left
  intro j hj
  exact h j (List.mem_range.mp hj)
/-- what is told of the new object, as whole numbers -/
theorem mo_of {g : Nat → Value} {J : Nat → Int32} {st2 li2 : Int64} {ks : List Nat} (h : ∀ j, j ∉ ks → g j = mkG I st li j) (hk : ∀ j, j ∈ ks → g j = mkG J st2 li2 j) (hg : gf ks I J) (hst : st2 = st) (hli : li2 = li ∨ 56 ∈ ks) : g = mkG J st2 li2 := by
  funext j
  by_cases hj : j ∈ ks
  · exact hk j hj
  · rw [h j hj]
    unfold mkG
    rw [hg j hj]
    subst hst
    by_cases e : j = 56
    · subst e
      rcases hli with h9 | h9
      · rw [h9]
      · exact absurd h9 hj
    · rw [mrf_56 (li := li2) e]
theorem q_mbegins {s e : Nat} (hb : ∀ j, b j < 256) (h : am_get S 408 = some (moC I st li)) (hB : mBy S b w) (h19 : I 19 = nI w) (h25 : I 25 = 0) (hw : w ≤ 1) (hs : s ≤ e) (he : e ≤ 960)
    (hret : ∀ len id p1 p2 T J, hd (Bn b) s e = .inr (len, id, p1, p2) → fr [408] S T → gf [21, 22, 57] I J → J 57 = nI p1 → mR T J st (lN id) b w p2 (s + len) → Q (.inl (some (.int (nI (s + len)))), T))
    (hbad : ∀ k pl T J li2, hd (Bn b) s e = .inl (k, pl) → fr [408] S T → gf [21, 22, 25, 26, 57] I J → mX T J st li2 k pl → (∃ q, J 21 = nI q) → Q (.inl (some (.int (nI e))), T)) : ev X (d + 4) 115 [.ref 408, .int (nI s), .int (nI e)] S Q := by
  obtain ⟨mb, h1, h2⟩ := id hB
  have ec : hd (mB mb w) s e = hd (Bn b) s e := hd_congr (fun j hj => h2 j (by omega))
  refine ev_conv (m_begins (w := w) h h1 rfl (congrArg Value.int h19) hw (congrArg Value.int h25) hs he (mB_ok hb h2)) (fun r hr => ?_)
  rw [ec] at hr
  rcases hr with ⟨len, id, p1, p2, e1, g, rfl, g21, g22, g56, g57, gj⟩ | ⟨k, pl, e1, g, rfl, ⟨q, hq, g21⟩, ⟨x22, g22⟩, ⟨x56, g56⟩, ⟨x57, g57⟩, g25, g26, gj⟩
  · have ho := hd_ok e1
    have eg : g = mkG (upd (upd (upd I 21 (nI p2)) 22 (nI (s + len))) 57 (nI p1)) st (lN id) := mo_of (ks := [21, 22, 56, 57]) gj (fun j hj => by
      simp only [List.mem_cons, List.not_mem_nil, or_false] at hj
      rcases hj with rfl | rfl | rfl | rfl
      · exact g21
      · exact g22
      · exact g56
      · exact g57) (gf_up (gf_up (gf_up (gf_refl _ _) (by simp)) (by simp)) (by simp)) rfl (Or.inr (by simp))
    rw [eg]
    have hgf : gf [21, 22, 57] I (upd (upd (upd I 21 (nI p2)) 22 (nI (s + len))) 57 (nI p1)) := gf_up (gf_up (gf_up (gf_refl _ _) (by simp)) (by simp)) (by simp)
    refine hret len id p1 p2 _ _ e1 (fr_up (by simp)) hgf pk_us ⟨am_get_self h, mBy_fr hB (fr_up (js := [408]) (by simp)) (by decide), (hgf 19 (by decide)).trans h19, ?_, ?_, (hgf 25 (by decide)).trans h25, hw, by omega, by omega⟩
    · rw [pk_un (by decide), pk_un (by decide), pk_us]
    · rw [pk_un (by decide), pk_us]
  · have eg : g = mkG (upd (upd (upd (upd (upd I 21 (nI q)) 22 x22) 57 x57) 25 k) 26 (nI pl)) st x56 := mo_of (ks := [21, 22, 25, 26, 56, 57]) gj (fun j hj => by
      simp only [List.mem_cons, List.not_mem_nil, or_false] at hj
      rcases hj with rfl | rfl | rfl | rfl | rfl | rfl
      · exact g21
      · exact g22
      · exact g25
      · exact g26
      · exact g56
      · exact g57) (gf_up (gf_up (gf_up (gf_up (gf_up (gf_refl _ _) (by simp)) (by simp)) (by simp)) (by simp)) (by simp)) rfl (Or.inr (by simp))
    rw [eg]
    refine hbad k pl _ _ x56 e1 (fr_up (by simp)) (gf_up (gf_up (gf_up (gf_up (gf_up (gf_refl _ _) (by simp)) (by simp)) (by simp)) (by simp)) (by simp)) ⟨am_get_self h, ?_, hd_ne e1, pk_us⟩ ⟨q, ?_⟩
    · rw [pk_un (by decide), pk_us]
    · rw [pk_un (by decide), pk_un (by decide), pk_un (by decide), pk_un (by decide), pk_us]
end MBASE
