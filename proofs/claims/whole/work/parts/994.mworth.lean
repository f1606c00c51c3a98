/-! THE MODEL: characterAt and worth -/
theorem lN_sh56 {a c : Nat} (ha : a < 2 ^ 56) (hc : c < 256) : (lN a <<< ((8 : Int32).toInt64 &&& 63)) ||| (nI c).toInt64 = lN (a * 256 + c) := by
  rw [nI_l (by omega)]
  rw [show ((8 : Int32).toInt64 &&& 63) = (8 : Int64) from by decide]
  apply Int64.toBitVec_inj.mp
  rw [Int64.toBitVec_or, Int64.toBitVec_shiftLeft]
  apply BitVec.eq_of_toNat_eq
  rw [BitVec.toNat_or]
  have e1 : ((lN a).toBitVec <<< (Int64.toBitVec 8).smod 64).toNat = a * 256 := by
    rw [show (Int64.toBitVec 8).smod 64 = 8#64 from by decide]
    show ((lN a).toBitVec <<< (8#64 : BitVec 64)).toNat = _
    rw [BitVec.shiftLeft_eq', BitVec.toNat_shiftLeft]
    show (BitVec.ofNat 64 a).toNat <<< 8 % 2 ^ 64 = _
    rw [BitVec.toNat_ofNat, Nat.mod_eq_of_lt (by omega), Nat.shiftLeft_eq, Nat.mod_eq_of_lt (by omega)]
  have e2 : (lN c).toBitVec.toNat = c := by
    show (BitVec.ofNat 64 c).toNat = c
    rw [BitVec.toNat_ofNat, Nat.mod_eq_of_lt (by omega)]
  have e3 : (lN (a * 256 + c)).toBitVec.toNat = a * 256 + c := by
    show (BitVec.ofNat 64 (a * 256 + c)).toNat = _
    rw [BitVec.toNat_ofNat, Nat.mod_eq_of_lt (by omega)]
  rw [e1, e2, e3]
  have h := Nat.two_pow_add_eq_or_of_lt (i := 8) (b := c) (by omega) a
  rw [show a * 256 = 2 ^ 8 * a by omega]
  exact h.symm
theorem lN_sh32 {a c : Nat} (ha : a < 2 ^ 32) (hc : c < 2 ^ 32) : (lN a <<< ((32 : Int32).toInt64 &&& 63)) ||| lN c = lN (a * 2 ^ 32 + c) := by
  apply Int64.toBitVec_inj.mp
  show (BitVec.ofNat 64 a <<< ((BitVec.ofNat 64 32).smod 64)) ||| BitVec.ofNat 64 c = BitVec.ofNat 64 (a * 2 ^ 32 + c)
  rw [show (BitVec.ofNat 64 32).smod 64 = BitVec.ofNat 64 32 from by decide]
  apply BitVec.eq_of_toNat_eq
  rw [BitVec.toNat_or, BitVec.shiftLeft_eq', BitVec.toNat_shiftLeft, BitVec.toNat_ofNat, BitVec.toNat_ofNat, BitVec.toNat_ofNat, BitVec.toNat_ofNat, Nat.mod_eq_of_lt (show a < 2 ^ 64 by omega), Nat.mod_eq_of_lt (show c < 2 ^ 64 by omega), show (32 % 2 ^ 64 : Nat) = 32 from by decide, Nat.shiftLeft_eq, Nat.mod_eq_of_lt (show a * 2 ^ 32 < 2 ^ 64 by omega), Nat.mod_eq_of_lt (show a * 2 ^ 32 + c < 2 ^ 64 by omega)]
  have h := Nat.two_pow_add_eq_or_of_lt (i := 32) (b := c) (by omega) a
  rw [show a * 2 ^ 32 = 2 ^ 32 * a by omega, ← h]
set_option maxRecDepth 4096 in
theorem fx_8 {b : Nat → Nat} (hb : ∀ j, b j < 256) {p : Nat} : fx (Bn b) p 8 = (lN (w4 b p) <<< ((32 : Int32).toInt64 &&& 63)) ||| lN (w4 b (p + 4)) := by
  have l1 : fxN b p 7 < 2 ^ 56 := fxN_lt hb (p := p) 7
  have l2 : w4 b p < 2 ^ 32 := fxN_lt hb (p := p) 4
  have l3 : w4 b (p + 4) < 2 ^ 32 := fxN_lt hb (p := p + 4) 4
  rw [lN_sh32 l2 l3]
  show (fx (Bn b) p 7 <<< ((8 : Int32).toInt64 &&& 63)) ||| (Bn b (p + 7)).toInt64 = _
  rw [fx_N hb 7 (by decide)]
  rw [show Bn b (p + 7) = nI (b (p + 7)) from rfl, lN_sh56 l1 (hb _)]
  congr 1
  show (((((((0 * 256 + b (p + 0)) * 256 + b (p + 1)) * 256 + b (p + 2)) * 256 + b (p + 3)) * 256 + b (p + 4)) * 256 + b (p + 5)) * 256 + b (p + 6)) * 256 + b (p + 7) = ((((0 * 256 + b (p + 0)) * 256 + b (p + 1)) * 256 + b (p + 2)) * 256 + b (p + 3)) * 2 ^ 32 + ((((0 * 256 + b (p + 4 + 0)) * 256 + b (p + 4 + 1)) * 256 + b (p + 4 + 2)) * 256 + b (p + 4 + 3))
  rw [show p + 4 + 0 = p + 4 by omega, show p + 4 + 1 = p + 5 by omega, show p + 4 + 2 = p + 6 by omega, show p + 4 + 3 = p + 7 by omega]
  omega
theorem l_and16 (x : Int64) : x &&& Int64.ofInt 65535 = (x.toInt32.toUInt32 % 65536).toInt32.toInt64 := by
  rw [show (x.toInt32.toUInt32 % 65536).toInt32 = nI (c16 x) from pk_char _, nI_l (by unfold c16; omega)]
  apply Int64.toBitVec_inj.mp
  apply BitVec.eq_of_toNat_eq
  rw [Int64.toBitVec_and, BitVec.toNat_and]
  show x.toBitVec.toNat &&& 65535 = (BitVec.ofNat 64 (c16 x)).toNat
  rw [show (65535 : Nat) = 2 ^ 16 - 1 from rfl, Nat.and_two_pow_sub_one_eq_mod, BitVec.toNat_ofNat]
  unfold c16
  rw [Int64.toBitVec_toInt32, BitVec.signExtend_eq_setWidth_of_le _ (by decide), BitVec.toNat_setWidth]
  omega
theorem caR_m1 : ∀ (ls : List Nat) (m : Nat), m + ls.length < 2 ^ 31 → caR (Int32.ofInt (-1)) ls m = nI (m + ls.length) := by
  intro ls
  induction ls with
  | nil => intro m _; unfold caR; rw [if_pos (by decide)]; rfl
  | cons x ls ih =>
    intro m hm
    rw [List.length_cons] at hm
    unfold caR
    rw [if_neg, ih (m + 1) (by omega), List.length_cons, show m + 1 + ls.length = m + (ls.length + 1) by omega]
    intro h9
    have h8 := congrArg Int32.toInt h9
    rw [nI_toInt (by omega)] at h8
    have : (Int32.ofInt (-1)).toInt = -1 := by decide
    omega
theorem caR_at : ∀ (ls : List Nat) (m i : Nat), m ≤ i → i < 2 ^ 31 → m + ls.length < 2 ^ 31 → caR (nI i) ls m = (match ls[i - m]? with | some x => nI x | none => -1) := by
  intro ls
  induction ls with
  | nil =>
    intro m i _ hi _
    unfold caR
    rw [if_neg (by rw [Int32.lt_iff_toInt_lt, nI_toInt hi]; show ¬ ((i : Int) < 0); omega)]
    rfl
  | cons x ls ih =>
    intro m i hmi hi hm
    rw [List.length_cons] at hm
    unfold caR
    by_cases c : m = i
    · subst c
      rw [if_pos rfl, Nat.sub_self]
      rfl
    · rw [if_neg (fun h9 => c ((nI_eq (by omega) hi).mp h9)), ih (m + 1) i (by omega) hi (by omega), show i - m = (i - (m + 1)) + 1 by omega, List.getElem?_cons_succ]
section MWORTH
variable {X : Nat × (Nat → Int32)} {d : Nat} {Q : am_R → Prop} {b : Nat → Nat} {v tot ci : Nat} {re : jRe} {M : jMT} {E : jME} {C : jMC} {ck : jCk}
theorem ca_h1 {S : am_S} {I : Nat → Int32} {st li : Int64} {q : Nat} {i : Int32} {ls : List Nat} {sz : Nat → Int32} (h : mR S I st li b v q tot) (hz1 : am_get S 411 = some (iA 2 sz)) (hz2 : sz v = nI tot) (hv : v ≤ 1) (hls : ls = []) (fin : ∀ T2 J2, fr [408] S T2 → gf [21] I J2 → (∃ q, mR T2 J2 st li b v q tot) → Q (.inl (some (.int (caR i ls 0))), T2)) : wp X (d + 3) 140 26 [some (.ref 408), some (.int i), some (.int (nI 1)), none, none, none, none] [] S Q := by
  subst hls
  iterate 2 refine wp_step rfl rfl ?_
  refine wp_icmp_f rfl rfl ?_
  iterate 3 refine wp_step rfl rfl ?_
  show wp X (d + 3) 140 40 [some (.ref 408), some (.int i), some (.int (nI 1)), some (.int (nI 0)), none, none, none] [] S Q
  iterate 2 refine wp_step rfl rfl ?_
  refine wp_icmp_t rfl rfl ?_
  refine wp_step rfl rfl ?_
  refine wp_getg rfl h.1 (by decide) rfl ?_
  refine wp_step rfl rfl ?_
  refine wp_getg (v := (.int (nI v))) rfl h.1 (by decide) (congrArg Value.int h.2.2.1) ?_
  refine wp_ald rfl (Or.inl ⟨rfl, rfl⟩) (by decide) hz1 (am_in_nI (by omega) (by decide)) ?_
  rw [nI_clamp (by omega)]
  rw [hz2]
  iterate 3 refine wp_step rfl rfl ?_
  show wp X (d + 3) 140 68 [some (.ref 408), some (.int i), some (.int (nI 1)), some (.int (nI 0)), some (.int (nI tot)), some (.int (nI 0)), none] [] S Q
  iterate 2 refine wp_step rfl rfl ?_
  refine wp_icmp_t rfl rfl ?_
  iterate 2 refine wp_step rfl rfl ?_
  refine wp_icmp rfl (fun c0 => ?_) (fun c0 => ?_)
  · replace c0 := n_ge_t (a := 0) (b := 0) (by omega) (by omega) c0
    exact ca_143 (fin S I (fr_refl _ _) (gf_refl _ _) ⟨_, h⟩)
  · replace c0 := n_ge_f (a := 0) (b := 0) (by omega) (by omega) c0
    omega
theorem ca_h4 {S : am_S} {I : Nat → Int32} {st li : Int64} {q n p1 : Nat} {i : Int32} {ls : List Nat} {sz : Nat → Int32} (hb : ∀ j, b j < 256) (h : mR S I st li b v q tot) (hz1 : am_get S 411 = some (iA 2 sz)) (hz2 : sz v = nI tot) (hv : v ≤ 1) (ec : cnt (Bn b) tot q = some (n, p1)) {pe : Nat} (hls : nls b tot n p1 = .inr (ls, pe)) (fin : ∀ T2 J2, fr [408] S T2 → gf [21] I J2 → (∃ q, mR T2 J2 st li b v q tot) → Q (.inl (some (.int (caR i ls 0))), T2)) : wp X (d + 3) 140 26 [some (.ref 408), some (.int i), some (.int (nI 4)), none, none, none, none] [] S Q := by
  iterate 2 refine wp_step rfl rfl ?_
  refine wp_icmp_t rfl rfl ?_
  refine wp_step rfl rfl ?_
  refine wp_c0 rfl rfl (by decide) rfl (recv_ok h.1 rfl) rfl (q_msmall hb h (fun n2 q2 T J e4 hf4 hg4 h4 => ?_) (fun T4 J4 e4 hf4 hg4 h4 hq4 => ?_))
  · rw [ec] at e4; cases e4
    have fin4 : ∀ T2 J2, fr [408] T T2 → gf [21] J J2 → (∃ q, mR T2 J2 st li b v q tot) → Q (.inl (some (.int (caR i ls 0))), T2) := fun T2 J2 g1 g2 g3 => fin T2 J2 (fr_trans hf4 g1) (gf_trans hg4 g2) g3
    replace hz1 : am_get T 411 = some (iA 2 sz) := by rw [fr_get hf4 (by decide)]; exact hz1
    have hcl := cnt_lt ec
    refine wp_step rfl rfl ?_
    show wp X (d + 3) 140 40 [some (.ref 408), some (.int i), some (.int (nI 4)), some (.int (nI n)), none, none, none] [] T Q
    iterate 2 refine wp_step rfl rfl ?_
    refine wp_icmp_t rfl rfl ?_
    refine wp_step rfl rfl ?_
    refine wp_getg rfl h4.1 (by decide) rfl ?_
    refine wp_step rfl rfl ?_
    refine wp_getg (v := (.int (nI v))) rfl h4.1 (by decide) (congrArg Value.int h4.2.2.1) ?_
    refine wp_ald rfl (Or.inl ⟨rfl, rfl⟩) (by decide) hz1 (am_in_nI (by omega) (by decide)) ?_
    rw [nI_clamp (by omega)]
    rw [hz2]
    iterate 3 refine wp_step rfl rfl ?_
    show wp X (d + 3) 140 68 [some (.ref 408), some (.int i), some (.int (nI 4)), some (.int (nI n)), some (.int (nI tot)), some (.int (nI 0)), none] [] T Q
    exact ca4_loop (d := d + 1) hb (by omega) n 0 p1 ls pe T J none hls (by omega) h4 fin4
  · rw [ec] at e4; cases e4
theorem ca_h3 {S : am_S} {I : Nat → Int32} {st li : Int64} {q n p1 : Nat} {i : Int32} {ls : List Nat} {sz : Nat → Int32} (hb : ∀ j, b j < 256) (h : mR S I st li b v q tot) (hz1 : am_get S 411 = some (iA 2 sz)) (hz2 : sz v = nI tot) (hv : v ≤ 1) (ec : cnt (Bn b) tot q = some (n, p1)) (hnl : p1 + n ≤ tot) (hls : us b (p1 + n) n p1 = .inr ls) (fin : ∀ T2 J2, fr [408] S T2 → gf [21] I J2 → (∃ q, mR T2 J2 st li b v q tot) → Q (.inl (some (.int (caR i ls 0))), T2)) : wp X (d + 3) 140 26 [some (.ref 408), some (.int i), some (.int (nI 3)), none, none, none, none] [] S Q := by
  iterate 2 refine wp_step rfl rfl ?_
  refine wp_icmp_t rfl rfl ?_
  refine wp_step rfl rfl ?_
  refine wp_c0 rfl rfl (by decide) rfl (recv_ok h.1 rfl) rfl (q_msmall hb h (fun n2 q2 T J e4 hf4 hg4 h4 => ?_) (fun T4 J4 e4 hf4 hg4 h4 hq4 => ?_))
  · rw [ec] at e4; cases e4
    have fin4 : ∀ T2 J2, fr [408] T T2 → gf [21] J J2 → (∃ q, mR T2 J2 st li b v q tot) → Q (.inl (some (.int (caR i ls 0))), T2) := fun T2 J2 g1 g2 g3 => fin T2 J2 (fr_trans hf4 g1) (gf_trans hg4 g2) g3
    replace hz1 : am_get T 411 = some (iA 2 sz) := by rw [fr_get hf4 (by decide)]; exact hz1
    have hcl := cnt_lt ec
    refine wp_step rfl rfl ?_
    show wp X (d + 3) 140 40 [some (.ref 408), some (.int i), some (.int (nI 3)), some (.int (nI n)), none, none, none] [] T Q
    iterate 2 refine wp_step rfl rfl ?_
    refine wp_icmp_f rfl rfl ?_
    refine wp_step rfl rfl ?_
    refine wp_getg (v := (.int (nI p1))) rfl h4.1 (by decide) (congrArg Value.int h4.2.2.2.1) ?_
    iterate 2 refine wp_step rfl rfl ?_
    rw [nI_add]
    iterate 4 refine wp_step rfl rfl ?_
    show wp X (d + 3) 140 68 [some (.ref 408), some (.int i), some (.int (nI 3)), some (.int (nI n)), some (.int (nI (p1 + n))), some (.int (nI 0)), none] [] T Q
    exact ca3_loop (d := d + 1) hb (by have := h4.2.2.2.2.2.2.2.2; omega) n 0 p1 ls T J none hls (by omega) (by omega) h4 fin4
  · rw [ec] at e4; cases e4
theorem ca_h5 {S : am_S} {I : Nat → Int32} {st li : Int64} {q n p1 : Nat} {i : Int32} {ls : List Nat} {sz : Nat → Int32} (hb : ∀ j, b j < 256) (h : mR S I st li b v q tot) (hz1 : am_get S 411 = some (iA 2 sz)) (hz2 : sz v = nI tot) (hv : v ≤ 1) (ec : cnt (Bn b) tot q = some (n, p1)) (hnl : p1 + n ≤ tot) (hls : ls = bls b n p1) (fin : ∀ T2 J2, fr [408] S T2 → gf [21] I J2 → (∃ q, mR T2 J2 st li b v q tot) → Q (.inl (some (.int (caR i ls 0))), T2)) : wp X (d + 3) 140 26 [some (.ref 408), some (.int i), some (.int (nI 5)), none, none, none, none] [] S Q := by
  iterate 2 refine wp_step rfl rfl ?_
  refine wp_icmp_t rfl rfl ?_
  refine wp_step rfl rfl ?_
  refine wp_c0 rfl rfl (by decide) rfl (recv_ok h.1 rfl) rfl (q_msmall hb h (fun n2 q2 T J e4 hf4 hg4 h4 => ?_) (fun T4 J4 e4 hf4 hg4 h4 hq4 => ?_))
  · rw [ec] at e4; cases e4
    have fin4 : ∀ T2 J2, fr [408] T T2 → gf [21] J J2 → (∃ q, mR T2 J2 st li b v q tot) → Q (.inl (some (.int (caR i ls 0))), T2) := fun T2 J2 g1 g2 g3 => fin T2 J2 (fr_trans hf4 g1) (gf_trans hg4 g2) g3
    replace hz1 : am_get T 411 = some (iA 2 sz) := by rw [fr_get hf4 (by decide)]; exact hz1
    have hcl := cnt_lt ec
    refine wp_step rfl rfl ?_
    show wp X (d + 3) 140 40 [some (.ref 408), some (.int i), some (.int (nI 5)), some (.int (nI n)), none, none, none] [] T Q
    iterate 2 refine wp_step rfl rfl ?_
    refine wp_icmp_t rfl rfl ?_
    refine wp_step rfl rfl ?_
    refine wp_getg rfl h4.1 (by decide) rfl ?_
    refine wp_step rfl rfl ?_
    refine wp_getg (v := (.int (nI v))) rfl h4.1 (by decide) (congrArg Value.int h4.2.2.1) ?_
    refine wp_ald rfl (Or.inl ⟨rfl, rfl⟩) (by decide) hz1 (am_in_nI (by omega) (by decide)) ?_
    rw [nI_clamp (by omega)]
    rw [hz2]
    iterate 3 refine wp_step rfl rfl ?_
    show wp X (d + 3) 140 68 [some (.ref 408), some (.int i), some (.int (nI 5)), some (.int (nI n)), some (.int (nI tot)), some (.int (nI 0)), none] [] T Q
    subst hls
    exact ca5_loop (d := d + 1) hb (by omega) n 0 p1 T J none (by omega) (by omega) h4 fin4
  · rw [ec] at e4; cases e4
theorem q_mcharAt {S : am_S} {I : Nat → Int32} {st li : Int64} {K : jMK} {p pe : Nat} {i : Int32} {ls : List Nat} (hb : ∀ j, b j < 256) (h : lkS S I st li b v tot re M E C K ci ck) (h33 : I 33 = nI p) (hX : rdX b tot p = .inr (.inr (.inr ls), pe)) (hq : ∀ T J, fr [408] S T → gf [21, 22] I J → lkS T J st li b v tot re M E C K ci ck → Q (.inl (some (.int (caR i ls 0))), T)) : ev X (d + 4) 140 [.ref 408, .int i] S Q := by
  refine ev_wp (L0 := [some (.ref 408), some (.int i), none, none, none, none, none]) (Nat.le_of_ble_eq_true rfl) rfl ?_
  obtain ⟨hci, hv, htot, hT, hmck, hC⟩ := lkS_sl h
  have hmz := h.1.2.2.2.2.1
  have hlt := rdX_lt hX
  have hp960 : p ≤ 960 := by omega
  iterate 2 refine wp_step rfl rfl ?_
  refine wp_getg (v := (.int (nI p))) rfl h.1.1 (by decide) (congrArg Value.int h33) ?_
  refine wp_putg rfl h.1.1 (by decide) rfl rfl ?_
  rw [mkG_i rfl]
  have h_Sx1 : am_get (am_upd S 408 (moC (upd I 21 (nI p)) st li)) 408 = some (moC (upd I 21 (nI p)) st li) := am_get_self h.1.1
  have hf_Sx1 : fr [408] S (am_upd S 408 (moC (upd I 21 (nI p)) st li)) := fr_up (by simp)
  generalize am_upd S 408 (moC (upd I 21 (nI p)) st li) = Sx1 at h_Sx1 hf_Sx1 ⊢
  obtain ⟨sz, hz1, hz2⟩ := mSz_fr hmz hf_Sx1 (by decide)
  iterate 2 refine wp_step rfl rfl ?_
  refine wp_getg rfl h_Sx1 (by decide) rfl ?_
  refine wp_step rfl rfl ?_
  refine wp_getg (v := (.int (nI v))) rfl h_Sx1 (by decide) (congrArg Value.int ((pk_un (by decide)).trans (h.2.1))) ?_
  refine wp_ald rfl (Or.inl ⟨rfl, rfl⟩) (by decide) hz1 (am_in_nI (by omega) (by decide)) ?_
  rw [nI_clamp (by omega)]
  rw [hz2]
  refine wp_putg rfl h_Sx1 (by decide) rfl rfl ?_
  rw [mkG_i rfl]
  have h_Sx2 : am_get (am_upd Sx1 408 (moC (upd (upd I 21 (nI p)) 22 (nI tot)) st li)) 408 = some (moC (upd (upd I 21 (nI p)) 22 (nI tot)) st li) := am_get_self h_Sx1
  have hf_Sx2 : fr [408] S (am_upd Sx1 408 (moC (upd (upd I 21 (nI p)) 22 (nI tot)) st li)) := fr_trans hf_Sx1 (fr_up (by simp))
  generalize am_upd Sx1 408 (moC (upd (upd I 21 (nI p)) 22 (nI tot)) st li) = Sx2 at h_Sx2 hf_Sx2 ⊢
  clear h_Sx1 hf_Sx1
  have hg_I1 : gf [21, 22] I (upd (upd I 21 (nI p)) 22 (nI tot)) := gf_up (gf_up (gf_refl _ _) (by simp)) (by simp)
  have I1_21 : (upd (upd I 21 (nI p)) 22 (nI tot)) 21 = nI p := (pk_un (by decide)).trans pk_us
  have I1_22 : (upd (upd I 21 (nI p)) 22 (nI tot)) 22 = nI tot := pk_us
  have a_I1 := h_Sx2
  have hf_I1 := hf_Sx2
  clear h_Sx2 hf_Sx2
  generalize upd (upd I 21 (nI p)) 22 (nI tot) = I1 at a_I1 hg_I1 I1_21 I1_22
  have hl_I1 := lkS_1 (st' := st) (li' := li) h hf_I1 a_I1 hg_I1 (by decide) (by decide) (by decide) (by decide) (by decide)
  have hw_I1 := lkS_wk hl_I1 I1_21 I1_22 hp960 htot
  refine wp_step rfl rfl ?_
  refine wp_c0 rfl rfl (by decide) rfl (recv_ok a_I1 rfl) rfl (q_wnext hb hw_I1 hlt (fun T J hf2 hg2 h2 => ?_))
  refine wp_step rfl rfl ?_
  have hl2 := lkS_of hl_I1 hf2 (fun j hj => by simp only [List.mem_cons, List.not_mem_nil, or_false] at hj; omega) hg2 h2 (by decide) (by decide) (by decide) (by decide) (by decide)
  have fin : ∀ T2 J2, fr [408] T T2 → gf [21] J J2 → (∃ q, mR T2 J2 st li b v q tot) → Q (.inl (some (.int (caR i ls 0))), T2) := fun T2 J2 g1 g2 ⟨q, g3⟩ => hq T2 J2 (fr_trans hf_I1 (fr_trans hf2 g1)) (gf_trans hg_I1 (gf_trans (gf_mono hg2 (fun j hj => by simp only [List.mem_cons, List.not_mem_nil, or_false] at hj ⊢; omega)) (gf_mono g2 (fun j hj => by simp only [List.mem_cons, List.not_mem_nil, or_false] at hj ⊢; omega)))) (lkS_1 hl2 g1 g3.1 g2 (by decide) (by decide) (by decide) (by decide) (by decide))
  obtain ⟨sz2, hz3, hz4⟩ := hl2.1.2.2.2.2.1
  have hR2 := h2.1
  show wp X (d + 3) 140 26 [some (.ref 408), some (.int i), some (.int (nI (b p))), none, none, none, none] [] T Q
  unfold rdX at hX
  rw [if_neg (by omega)] at hX
  by_cases b0 : b p = 0
  · rw [if_pos b0] at hX; cases hX
  rw [if_neg b0] at hX
  by_cases b2 : b p = 2
  · rw [if_pos b2] at hX
    cases e9 : num9 (Bn b) tot (p + 1) with
    | none => rw [e9] at hX; cases hX
    | some x => obtain ⟨x1, x2⟩ := x; rw [e9] at hX; cases hX
  rw [if_neg b2] at hX
  by_cases b5 : 5 < b p
  · rw [if_pos b5] at hX; cases hX
  rw [if_neg b5] at hX
  by_cases b1 : b p = 1
  · rw [if_pos b1] at hX
    cases hX
    rw [b1]
    exact ca_h1 hR2 hz3 hz4 hv rfl fin
  rw [if_neg b1] at hX
  cases ec : cnt (Bn b) tot (p + 1) with
  | none => rw [ec] at hX; cases hX
  | some x =>
    obtain ⟨n, p1⟩ := x
    rw [ec] at hX
    dsimp only at hX
    have hcl := cnt_lt ec
    by_cases b4 : b p = 4
    · rw [if_pos b4] at hX
      rw [b4]
      cases en : nls b tot n p1 with
      | inl e => rw [en] at hX; cases hX
      | inr x =>
        obtain ⟨ls2, p2⟩ := x
        rw [en] at hX
        cases hX
        exact ca_h4 hb hR2 hz3 hz4 hv ec en fin
    · rw [if_neg b4] at hX
      by_cases bn : tot - p1 < n
      · rw [if_pos bn] at hX; cases hX
      · rw [if_neg bn] at hX
        by_cases b3 : b p = 3
        · rw [if_pos b3] at hX
          rw [b3]
          cases en : us b (p1 + n) n p1 with
          | inl e => rw [en] at hX; cases hX
          | inr x =>
            rw [en] at hX
            cases hX
            exact ca_h3 hb hR2 hz3 hz4 hv ec (by omega) en fin
        · rw [if_neg b3] at hX
          cases hX
          rw [show b p = 5 by omega]
          exact ca_h5 hb hR2 hz3 hz4 hv ec (by omega) rfl fin
end MWORTH
