/-! Values.put, readPlain, addLetter; Source.utf8 -/
theorem nI_or (a b : Nat) : nI a ||| nI b = nI (a ||| b) := by
  apply Int32.toBitVec_inj.mp
  show BitVec.ofNat 32 a ||| BitVec.ofNat 32 b = BitVec.ofNat 32 (a ||| b)
  apply BitVec.eq_of_getLsbD_eq
  intro i hi
  simp [hi]
theorem nI_sh6 {a c : Nat} (ha : a < 2 ^ 20) (hc : c < 256) : (nI a <<< ((Int8.ofInt 6).toInt32 &&& 31)) ||| (nI c &&& (Int8.ofInt 63).toInt32) = nI (a * 64 + c % 64) := by
  rw [pk_andN (by omega) 6 (by decide), show ((Int8.ofInt 6).toInt32 &&& 31) = (6 : Int32) from by decide, pk_shlN 6 6 (by decide) (by omega), nI_or]
  have h := Nat.two_pow_add_eq_or_of_lt (i := 6) (b := c % 64) (by omega) a
  rw [show a * 2 ^ 6 = 2 ^ 6 * a by omega]
  show nI (2 ^ 6 * a ||| c % 64) = _
  rw [← h]
  first | done | (congr 1; omega)
/-- one node's three entries -/
def putA (A : jVA) (n : Nat) (k : Int32) (v : Int64) (f : Int32) : jVA := (upd A.1 n k, vp_updL A.2.1 n v, upd A.2.2.1 n f, A.2.2.2.1, A.2.2.2.2)
section LEAF
variable {X : Nat × (Nat → Int32)} {d : Nat} {Q : am_R → Prop} {b : Nat → Nat} {tot p lim idp v n l : Nat} {S : am_S} {A : jVA}
theorem q_put {i : Nat} {k f : Int32} {x : Int64} (h : vS S v n l A) (hi : 1 ≤ i ∧ i < 1201) (hq : ∀ T, fr [v + 1, v + 2, v + 3] S T → vS T v n l (putA A i k x f) → Q (.inl none, T)) : ev X (d + 1) 66 [.ref v, .int (nI i), .int k, .long x, .int f] S Q := by
  obtain ⟨h0, h1, h2, h3, h4, h5, h6, h7, h8⟩ := id h
  refine ev_wp (L0 := [some (.ref v), some (.int (nI i)), some (.int k), some (.long x), none, some (.int f)]) (Nat.le_of_ble_eq_true rfl) rfl ?_
  refine wp_step rfl rfl ?_
  refine wp_getg rfl h0 (by decide) rfl ?_
  iterate 2 refine wp_step rfl rfl ?_
  refine wp_ast rfl (Or.inl ⟨rfl, rfl⟩) h1 (am_in_nI (by omega) (by decide)) ?_
  rw [nI_clamp (by omega)]
  refine wp_step rfl rfl ?_
  refine wp_getg rfl (by rw [am_get_ne (by omega)]; exact h0) (by decide) rfl ?_
  iterate 2 refine wp_step rfl rfl ?_
  refine wp_last rfl (by rw [am_get_ne (by omega)]; exact h2) (am_in_nI (by omega) (by decide)) ?_
  rw [nI_clamp (by omega)]
  refine wp_step rfl rfl ?_
  refine wp_getg rfl (by rw [am_get_ne (by omega), am_get_ne (by omega)]; exact h0) (by decide) rfl ?_
  iterate 2 refine wp_step rfl rfl ?_
  refine wp_ast rfl (Or.inl ⟨rfl, rfl⟩) (by rw [am_get_ne (by omega), am_get_ne (by omega)]; exact h3) (am_in_nI (by omega) (by decide)) ?_
  rw [nI_clamp (by omega)]
  refine wp_vret rfl rfl (hq _ (fr_upd (fr_upd (fr_up (by simp)) (by simp)) (by simp)) ⟨?_, ?_, ?_, ?_, ?_, ?_, h6, (pk_un (by omega)).trans h7, (pk_uLn (by omega)).trans h8⟩)
  · rw [am_get_ne (by omega), am_get_ne (by omega), am_get_ne (by omega)]; exact h0
  · rw [am_get_ne (by omega), am_get_ne (by omega)]; exact am_get_self h1
  · rw [am_get_ne (by omega)]; exact am_get_self (by rw [am_get_ne (by omega)]; exact h2)
  · exact am_get_self (by rw [am_get_ne (by omega), am_get_ne (by omega)]; exact h3)
  · rw [am_get_ne (by omega), am_get_ne (by omega), am_get_ne (by omega)]; exact h4
  · rw [am_get_ne (by omega), am_get_ne (by omega), am_get_ne (by omega)]; exact h5
theorem wp_tsw {dflt lo hi : Int} {offs : Array Int} {len a b w q : Nat} {cst : Int} {x : Int32} {k pc : Nat} {L : am_L} {st : List Value} (hh : am_P k pc = some (.tableswitch dflt lo hi offs, len, a, b, w, cst)) (hq : am_sw (.tableswitch dflt lo hi offs) pc x = q) (h : wp X d k q L st S Q) : wp X d k pc L (.int x :: st) S Q :=
  wp_step hh (by simp only [am_step, hq]) h
set_option maxHeartbeats 1000000 in
theorem q_readPlain {ty : Nat} (hb : ∀ j, b j < 256) (h : sK S b tot p lim idp) (h2 : 2 ≤ ty) (h9 : ty < 10)
    (hret : ∀ x p' T, rdP b lim ty p = some (x, p') → fr [1] S T → sK T b tot p' lim idp → Q (.inl (some (.long x)), T))
    (hthr : ∀ T, rdP b lim ty p = none → fr [1] S T → sX T tot 2 p → Q (.inr IAE, am_thrown T)) : ev X (d + 4) 67 [.ref v, .ref 1, .int (nI ty)] S Q := by
  refine ev_wp (L0 := [some (.ref v), some (.ref 1), some (.int (nI ty))]) (Nat.le_of_ble_eq_true rfl) rfl ?_
  refine wp_step rfl rfl ?_
  have hty : ty = 2 ∨ ty = 3 ∨ ty = 4 ∨ ty = 5 ∨ ty = 6 ∨ ty = 7 ∨ ty = 8 ∨ ty = 9 := by omega
  rcases hty with rfl | rfl | rfl | rfl | rfl | rfl | rfl | rfl
  · refine wp_tsw (q := 48) rfl rfl ?_
    refine wp_step rfl rfl ?_
    refine wp_c0 rfl rfl (by decide) rfl (recv_ok h.1 rfl) rfl (q_oneByte h (fun T hlt hf hk => ?_) (fun T hlt hf hx => ?_))
    · have hbp := hb p
      refine wp_if rfl (fun c1 => ?_) (fun c1 => ?_)
      · replace c1 := z_ne_t (a := b p) (by omega) c1
        refine wp_step rfl rfl ?_
        refine wp_lret rfl rfl (hret 1 (p + 1) T (by unfold rdP; rw [if_pos rfl, if_neg (by omega), if_neg c1]) hf hk)
      · replace c1 := z_ne_f (a := b p) (by omega) c1
        iterate 2 refine wp_step rfl rfl ?_
        refine wp_lret rfl rfl (hret 0 (p + 1) T (by unfold rdP; rw [if_pos rfl, if_neg (by omega), if_pos c1]) hf hk)
    · exact hthr T (by unfold rdP; rw [if_pos rfl, if_pos hlt]) hf hx
  · refine wp_tsw (q := 61) rfl rfl ?_
    refine wp_step rfl rfl ?_
    refine wp_c0 rfl rfl (by decide) rfl (recv_ok h.1 rfl) rfl (q_oneByte h (fun T hlt hf hk => ?_) (fun T hlt hf hx => ?_))
    · iterate 2 refine wp_step rfl rfl ?_
      refine wp_lret rfl rfl (hret _ (p + 1) T (by unfold rdP; rw [if_neg (by decide), if_pos rfl, if_neg (by omega)]) hf hk)
    · exact hthr T (by unfold rdP; rw [if_neg (by decide), if_pos rfl, if_pos hlt]) hf hx
  · refine wp_tsw (q := 68) rfl rfl ?_
    refine wp_step rfl rfl ?_
    refine wp_c0 rfl rfl (by decide) rfl (recv_ok h.1 rfl) rfl (q_number h (fun z p1 T hn hf hk => ?_) (fun T hn hf hx => ?_))
    · iterate 3 refine wp_step rfl rfl ?_
      refine wp_lret rfl rfl (hret _ p1 T (by unfold rdP; rw [if_neg (by decide), if_neg (by decide), if_neg (by decide), if_neg (by decide), hn]; dsimp only; rw [if_pos rfl]) hf hk)
    · exact hthr T (by unfold rdP; rw [if_neg (by decide), if_neg (by decide), if_neg (by decide), if_neg (by decide), hn]) hf hx
  · refine wp_tsw (q := 76) rfl rfl ?_
    refine wp_step rfl rfl ?_
    refine wp_c0 rfl rfl (by decide) rfl (recv_ok h.1 rfl) rfl (q_number h (fun z p1 T hn hf hk => ?_) (fun T hn hf hx => ?_))
    · iterate 3 refine wp_step rfl rfl ?_
      refine wp_lret rfl rfl (hret _ p1 T (by unfold rdP; rw [if_neg (by decide), if_neg (by decide), if_neg (by decide), if_neg (by decide), hn]; dsimp only; rw [if_neg (by decide), if_pos rfl]) hf hk)
    · exact hthr T (by unfold rdP; rw [if_neg (by decide), if_neg (by decide), if_neg (by decide), if_neg (by decide), hn]) hf hx
  · refine wp_tsw (q := 84) rfl rfl ?_
    refine wp_step rfl rfl ?_
    refine wp_c0 rfl rfl (by decide) rfl (recv_ok h.1 rfl) rfl (q_number h (fun z p1 T hn hf hk => ?_) (fun T hn hf hx => ?_))
    · iterate 2 refine wp_step rfl rfl ?_
      refine wp_lret rfl rfl (hret _ p1 T (by unfold rdP; rw [if_neg (by decide), if_neg (by decide), if_neg (by decide), if_neg (by decide), hn]; dsimp only; rw [if_neg (by decide), if_neg (by decide), if_pos rfl]) hf hk)
    · exact hthr T (by unfold rdP; rw [if_neg (by decide), if_neg (by decide), if_neg (by decide), if_neg (by decide), hn]) hf hx
  · refine wp_tsw (q := 104) rfl rfl ?_
    refine wp_step rfl rfl ?_
    refine wp_c0 rfl rfl (by decide) rfl (recv_ok h.1 rfl) rfl (q_number h (fun z p1 T hn hf hk => ?_) (fun T hn hf hx => ?_))
    · refine wp_lret rfl rfl (hret _ p1 T (by unfold rdP; rw [if_neg (by decide), if_neg (by decide), if_neg (by decide), if_neg (by decide), hn]; dsimp only; rw [if_neg (by decide), if_neg (by decide), if_neg (by decide)]) hf hk)
    · exact hthr T (by unfold rdP; rw [if_neg (by decide), if_neg (by decide), if_neg (by decide), if_neg (by decide), hn]) hf hx
  · refine wp_tsw (q := 91) rfl rfl ?_
    iterate 2 refine wp_step rfl rfl ?_
    refine wp_c0 rfl rfl (by decide) rfl (recv_ok h.1 rfl) rfl (q_fixed (n := 4) h (by decide) (fun T hlt hf hk => ?_) (fun T hlt hf hx => ?_))
    · refine wp_lret rfl rfl (hret _ (p + 4) T (by unfold rdP; rw [if_neg (by decide), if_neg (by decide), if_pos rfl, if_neg (by omega)]) hf hk)
    · exact hthr T (by unfold rdP; rw [if_neg (by decide), if_neg (by decide), if_pos rfl, if_pos hlt]) hf hx
  · refine wp_tsw (q := 97) rfl rfl ?_
    iterate 2 refine wp_step rfl rfl ?_
    refine wp_c0 rfl rfl (by decide) rfl (recv_ok h.1 rfl) rfl (q_fixed (n := 8) h (by decide) (fun T hlt hf hk => ?_) (fun T hlt hf hx => ?_))
    · refine wp_lret rfl rfl (hret _ (p + 8) T (by unfold rdP; rw [if_neg (by decide), if_neg (by decide), if_neg (by decide), if_pos rfl, if_neg (by omega)]) hf hk)
    · exact hthr T (by unfold rdP; rw [if_neg (by decide), if_neg (by decide), if_neg (by decide), if_pos rfl, if_pos hlt]) hf hx
theorem q_addLetter {x : Nat} (h : vS S v n l A) (hx : x < 65536) (hl : l < 960) (hq : ∀ T, fr [v, v + 5] S T → vS T v n (l + 1) (A.1, A.2.1, A.2.2.1, A.2.2.2.1, upd A.2.2.2.2 l (nI x)) → Q (.inl none, T)) : ev X (d + 1) 69 [.ref v, .int (nI x)] S Q := by
  obtain ⟨h0, h1, h2, h3, h4, h5, h6, h7, h8⟩ := id h
  refine ev_wp (L0 := [some (.ref v), some (.int (nI x))]) (Nat.le_of_ble_eq_true rfl) rfl ?_
  refine wp_step rfl rfl ?_
  refine wp_getg rfl h0 (by decide) rfl ?_
  refine wp_step rfl rfl ?_
  refine wp_icmp rfl (fun c1 => ?_) (fun c1 => ?_)
  · replace c1 := n_ge_t (a := l) (b := 960) (by omega) (by omega) c1
    omega
  · replace c1 := n_ge_f (a := l) (b := 960) (by omega) (by omega) c1
    refine wp_step rfl rfl ?_
    refine wp_getg rfl h0 (by decide) rfl ?_
    refine wp_step rfl rfl ?_
    refine wp_getg rfl h0 (by decide) rfl ?_
    refine wp_step rfl rfl ?_
    refine wp_ast rfl (Or.inr (Or.inr ⟨rfl, rfl⟩)) h5 (am_in_nI (by omega) (by decide)) ?_
    rw [nI_clamp (by omega)]
    rw [show vp_nar (am_ty 3) (nI x) = nI x from Value.int.inj (pk_charN hx).1]
    iterate 2 refine wp_step rfl rfl ?_
    refine wp_getg rfl (by rw [am_get_ne (by omega)]; exact h0) (by decide) rfl ?_
    iterate 2 refine wp_step rfl rfl ?_
    rw [show nI l + Int32.ofInt 1 = nI (l + 1) from nI_add l 1]
    refine wp_putg rfl (by rw [am_get_ne (by omega)]; exact h0) (by decide) rfl rfl ?_
    rw [vaG_5]
    refine wp_vret rfl rfl (hq _ (fr_upd (fr_up (by simp)) (by simp)) ⟨?_, ?_, ?_, ?_, ?_, ?_, h6, h7, h8⟩)
    · exact am_get_self (by rw [am_get_ne (by omega)]; exact h0)
    · rw [am_get_ne (by omega), am_get_ne (by omega)]; exact h1
    · rw [am_get_ne (by omega), am_get_ne (by omega)]; exact h2
    · rw [am_get_ne (by omega), am_get_ne (by omega)]; exact h3
    · rw [am_get_ne (by omega), am_get_ne (by omega)]; exact h4
    · rw [am_get_ne (by omega)]; exact am_get_self h5
set_option maxHeartbeats 1000000 in
theorem q_utf8 {stop : Nat} (hb : ∀ j, b j < 256) (h : sK S b tot p lim idp) (hp : p < stop) (hs : stop ≤ lim)
    (hret : ∀ x m T, u8 b stop p = some (x, m) → fr [1] S T → sK T b tot (p + m) lim idp → Q (.inl (some (.int (nI x))), T))
    (hthr : ∀ T, u8 b stop p = none → fr [1] S T → sX T tot 6 p → Q (.inr IAE, am_thrown T)) : ev X (d + 2) 53 [.ref 1, .int (nI stop)] S Q := by
  obtain ⟨h1, ⟨fb, hB, hfb⟩, h2⟩ := id h
  refine ev_wp (L0 := [some (.ref 1), some (.int (nI stop)), none, none, none, none, none, none]) (Nat.le_of_ble_eq_true rfl) rfl ?_
  have hbp := hb p
  have hbp1 := hb (p + 1)
  have hbp2 := hb (p + 2)
  refine wp_step rfl rfl ?_
  refine wp_getg rfl h1 (by decide) rfl ?_
  iterate 2 refine wp_step rfl rfl ?_
  refine wp_getg rfl h1 (by decide) rfl ?_
  refine wp_step rfl rfl ?_
  refine wp_ald rfl (Or.inr (Or.inl ⟨rfl, rfl⟩)) (by decide) hB (am_in_nI (by omega) (by decide)) ?_
  rw [nI_clamp (by omega)]
  iterate 2 refine wp_step rfl rfl ?_
  rw [show fb p &&& (Int16.ofInt 255).toInt32 = nI (b p) from hfb p (by omega)]
  refine wp_step rfl rfl ?_
  show wp X _ 53 16 [some (.ref 1), some (.int (nI stop)), some (.int (nI p)), some (.int (nI (b p))), none, none, none, none] [] S Q
  iterate 2 refine wp_step rfl rfl ?_
  refine wp_icmp rfl (fun c1 => ?_) (fun c1 => ?_)
  · replace c1 := n_ge_t (a := b p) (b := 128) (by omega) (by omega) c1
    iterate 2 refine wp_step rfl rfl ?_
    refine wp_icmp rfl (fun c2 => ?_) (fun c2 => ?_)
    · replace c2 := n_ge_t (a := b p) (b := 192) (by omega) (by omega) c2
      iterate 2 refine wp_step rfl rfl ?_
      refine wp_icmp rfl (fun c3 => ?_) (fun c3 => ?_)
      · replace c3 := n_ge_t (a := b p) (b := 224) (by omega) (by omega) c3
        iterate 2 refine wp_step rfl rfl ?_
        refine wp_icmp rfl (fun c4 => ?_) (fun c4 => ?_)
        · replace c4 := n_ge_t (a := b p) (b := 240) (by omega) (by omega) c4
          iterate 2 refine wp_step rfl rfl ?_
          show wp X _ 53 63 [some (.ref 1), some (.int (nI stop)), some (.int (nI p)), some (.int (nI (b p))), some (.int (Int32.ofInt (-1))), none, none, none] [] S Q
          refine wp_step rfl rfl ?_
          refine wp_if_t rfl (by decide) ?_
          iterate 3 refine wp_step rfl rfl ?_
          refine wp_fl rfl rfl h (fun T hf hx => hthr T ?_ hf hx)
          unfold u8; rw [if_neg (by omega), if_neg (by omega), if_neg (by omega), if_neg (by omega)]
        · replace c4 := n_ge_f (a := b p) (b := 240) (by omega) (by omega) c4
          iterate 3 refine wp_step rfl rfl ?_
          show wp X _ 53 63 [some (.ref 1), some (.int (nI stop)), some (.int (nI p)), some (.int (nI (b p))), some (.int (Int32.ofInt 2)), none, none, none] [] S Q
          refine wp_step rfl rfl ?_
          refine wp_if_f rfl (by decide) ?_
          iterate 4 refine wp_step rfl rfl ?_
          rw [pk_sub (by omega)]
          refine wp_icmp rfl (fun c5 => ?_) (fun c5 => ?_)
          · replace c5 := n_lt_t (a := 2) (b := stop - p) (by omega) (by omega) c5
            refine wp_step rfl rfl ?_
            refine wp_if_t rfl (by decide) ?_
            iterate 2 refine wp_step rfl rfl ?_
            refine wp_icmp_t rfl (by decide) ?_
            iterate 3 refine wp_step rfl rfl ?_
            rw [show nI (b p) &&& (Int8.ofInt 15).toInt32 = nI (b p % 16) from pk_andN (by omega) 4 (by decide)]
            iterate 3 refine wp_step rfl rfl ?_
            show wp X _ 53 114 [some (.ref 1), some (.int (nI stop)), some (.int (nI p)), some (.int (nI (b p))), some (.int (Int32.ofInt 2)), some (.int (nI (b p % 16))), some (.int (nI 1)), none] [] S Q
            iterate 2 refine wp_step rfl rfl ?_
            refine wp_icmp_f rfl (by decide) ?_
            refine wp_step rfl rfl ?_
            refine wp_getg rfl h1 (by decide) rfl ?_
            iterate 3 refine wp_step rfl rfl ?_
            rw [nI_add]
            refine wp_ald rfl (Or.inr (Or.inl ⟨rfl, rfl⟩)) (by decide) hB (am_in_nI (by omega) (by decide)) ?_
            rw [nI_clamp (by omega)]
            iterate 2 refine wp_step rfl rfl ?_
            rw [show fb (p + 1) &&& (Int16.ofInt 255).toInt32 = nI (b (p + 1)) from hfb (p + 1) (by omega)]
            refine wp_step rfl rfl ?_
            show wp X _ 53 136 [some (.ref 1), some (.int (nI stop)), some (.int (nI p)), some (.int (nI (b p))), some (.int (Int32.ofInt 2)), some (.int (nI (b p % 16))), some (.int (nI 1)), some (.int (nI (b (p + 1))))] [] S Q
            iterate 2 refine wp_step rfl rfl ?_
            refine wp_icmp rfl (fun d1 => ?_) (fun d1 => ?_)
            · replace d1 := n_lt_t (a := b (p + 1)) (b := 128) (by omega) (by omega) d1
              iterate 3 refine wp_step rfl rfl ?_
              refine wp_fl rfl rfl h (fun T hf hx => hthr T ?_ hf hx)
              unfold u8; rw [if_neg (by omega), if_neg (by omega), if_neg (by omega), if_pos c4, if_neg (by omega), if_pos (Or.inl d1)]
            · replace d1 := n_lt_f (a := b (p + 1)) (b := 128) (by omega) (by omega) d1
              iterate 2 refine wp_step rfl rfl ?_
              refine wp_icmp rfl (fun e1 => ?_) (fun e1 => ?_)
              · replace e1 := n_le_t (a := b (p + 1)) (b := 191) (by omega) (by omega) e1
                iterate 7 refine wp_step rfl rfl ?_
                rw [nI_sh6 (by omega) (by omega)]
                iterate 3 refine wp_step rfl rfl ?_
                rw [show nI 1 + Int32.ofInt 1 = nI 2 from rfl]
                show wp X _ 53 114 [some (.ref 1), some (.int (nI stop)), some (.int (nI p)), some (.int (nI (b p))), some (.int (Int32.ofInt 2)), some (.int (nI (b p % 16 * 64 + b (p + 1) % 64))), some (.int (nI 2)), some (.int (nI (b (p + 1))))] [] S Q
                iterate 2 refine wp_step rfl rfl ?_
                refine wp_icmp_f rfl (by decide) ?_
                refine wp_step rfl rfl ?_
                refine wp_getg rfl h1 (by decide) rfl ?_
                iterate 3 refine wp_step rfl rfl ?_
                rw [nI_add]
                refine wp_ald rfl (Or.inr (Or.inl ⟨rfl, rfl⟩)) (by decide) hB (am_in_nI (by omega) (by decide)) ?_
                rw [nI_clamp (by omega)]
                iterate 2 refine wp_step rfl rfl ?_
                rw [show fb (p + 2) &&& (Int16.ofInt 255).toInt32 = nI (b (p + 2)) from hfb (p + 2) (by omega)]
                refine wp_step rfl rfl ?_
                show wp X _ 53 136 [some (.ref 1), some (.int (nI stop)), some (.int (nI p)), some (.int (nI (b p))), some (.int (Int32.ofInt 2)), some (.int (nI (b p % 16 * 64 + b (p + 1) % 64))), some (.int (nI 2)), some (.int (nI (b (p + 2))))] [] S Q
                iterate 2 refine wp_step rfl rfl ?_
                refine wp_icmp rfl (fun d2 => ?_) (fun d2 => ?_)
                · replace d2 := n_lt_t (a := b (p + 2)) (b := 128) (by omega) (by omega) d2
                  iterate 3 refine wp_step rfl rfl ?_
                  refine wp_fl rfl rfl h (fun T hf hx => hthr T ?_ hf hx)
                  unfold u8; rw [if_neg (by omega), if_neg (by omega), if_neg (by omega), if_pos c4, if_neg (by omega), if_neg (by omega), if_pos (Or.inl d2)]
                · replace d2 := n_lt_f (a := b (p + 2)) (b := 128) (by omega) (by omega) d2
                  iterate 2 refine wp_step rfl rfl ?_
                  refine wp_icmp rfl (fun e2 => ?_) (fun e2 => ?_)
                  · replace e2 := n_le_t (a := b (p + 2)) (b := 191) (by omega) (by omega) e2
                    iterate 7 refine wp_step rfl rfl ?_
                    rw [nI_sh6 (by omega) (by omega)]
                    iterate 3 refine wp_step rfl rfl ?_
                    rw [show nI 2 + Int32.ofInt 1 = nI 3 from rfl]
                    show wp X _ 53 114 [some (.ref 1), some (.int (nI stop)), some (.int (nI p)), some (.int (nI (b p))), some (.int (Int32.ofInt 2)), some (.int (nI ((b p % 16 * 64 + b (p + 1) % 64) * 64 + b (p + 2) % 64))), some (.int (nI 3)), some (.int (nI (b (p + 2))))] [] S Q
                    iterate 2 refine wp_step rfl rfl ?_
                    refine wp_icmp_t rfl (by decide) ?_
                    iterate 2 refine wp_step rfl rfl ?_
                    refine wp_icmp_t rfl (by decide) ?_
                    iterate 2 refine wp_step rfl rfl ?_
                    refine wp_icmp_f rfl (by decide) ?_
                    iterate 2 refine wp_step rfl rfl ?_
                    refine wp_icmp rfl (fun c6 => ?_) (fun c6 => ?_)
                    · replace c6 := n_ge_t (a := (b p % 16 * 64 + b (p + 1) % 64) * 64 + b (p + 2) % 64) (b := 2048) (by omega) (by omega) c6
                      iterate 2 refine wp_step rfl rfl ?_
                      show wp X _ 53 213 [some (.ref 1), some (.int (nI stop)), some (.int (nI p)), some (.int (nI (b p))), some (.int (Int32.ofInt 2)), some (.int (nI ((b p % 16 * 64 + b (p + 1) % 64) * 64 + b (p + 2) % 64))), some (.int (nI 0)), some (.int (nI (b (p + 2))))] [] S Q
                      refine wp_step rfl rfl ?_
                      refine wp_if_f rfl (by decide) ?_
                      iterate 2 refine wp_step rfl rfl ?_
                      refine wp_icmp rfl (fun c7 => ?_) (fun c7 => ?_)
                      · replace c7 := n_lt_t (a := (b p % 16 * 64 + b (p + 1) % 64) * 64 + b (p + 2) % 64) (b := 55296) (by omega) (by omega) c7
                        iterate 6 refine wp_step rfl rfl ?_
                        rw [show nI p + Int32.ofInt 2 + Int32.ofInt 1 = nI (p + 3) from (by rw [show nI p + Int32.ofInt 2 = nI (p + 2) from nI_add p 2]; exact nI_add (p + 2) 1)]
                        refine wp_putg rfl h1 (by decide) rfl rfl ?_
                        rw [srcG_3]
                        iterate 2 refine wp_step rfl rfl ?_
                        rw [pk_char, pk_tn (by omega), show ((b p % 16 * 64 + b (p + 1) % 64) * 64 + b (p + 2) % 64) % 65536 = (b p % 16 * 64 + b (p + 1) % 64) * 64 + b (p + 2) % 64 from Nat.mod_eq_of_lt (by omega)]
                        refine wp_iret rfl rfl (pk_charN (by omega)).1 ?_
                        have h4 := sK_up (x := 0) h (p := p + 3) (l := lim) (i := idp) (by omega) (by omega) (by omega)
                        exact hret _ 3 _ (by unfold u8; rw [if_neg (by omega), if_neg (by omega), if_neg (by omega), if_pos c4, if_neg (by omega), if_neg (by omega), if_neg (by omega), if_neg (by omega)]) h4.1 h4.2
                      · replace c7 := n_lt_f (a := (b p % 16 * 64 + b (p + 1) % 64) * 64 + b (p + 2) % 64) (b := 55296) (by omega) (by omega) c7
                        iterate 2 refine wp_step rfl rfl ?_
                        refine wp_icmp rfl (fun c8 => ?_) (fun c8 => ?_)
                        · replace c8 := n_gt_t (a := (b p % 16 * 64 + b (p + 1) % 64) * 64 + b (p + 2) % 64) (b := 57343) (by omega) (by omega) c8
                          iterate 6 refine wp_step rfl rfl ?_
                          rw [show nI p + Int32.ofInt 2 + Int32.ofInt 1 = nI (p + 3) from (by rw [show nI p + Int32.ofInt 2 = nI (p + 2) from nI_add p 2]; exact nI_add (p + 2) 1)]
                          refine wp_putg rfl h1 (by decide) rfl rfl ?_
                          rw [srcG_3]
                          iterate 2 refine wp_step rfl rfl ?_
                          rw [pk_char, pk_tn (by omega), show ((b p % 16 * 64 + b (p + 1) % 64) * 64 + b (p + 2) % 64) % 65536 = (b p % 16 * 64 + b (p + 1) % 64) * 64 + b (p + 2) % 64 from Nat.mod_eq_of_lt (by omega)]
                          refine wp_iret rfl rfl (pk_charN (by omega)).1 ?_
                          have h4 := sK_up (x := 0) h (p := p + 3) (l := lim) (i := idp) (by omega) (by omega) (by omega)
                          exact hret _ 3 _ (by unfold u8; rw [if_neg (by omega), if_neg (by omega), if_neg (by omega), if_pos c4, if_neg (by omega), if_neg (by omega), if_neg (by omega), if_neg (by omega)]) h4.1 h4.2
                        · replace c8 := n_gt_f (a := (b p % 16 * 64 + b (p + 1) % 64) * 64 + b (p + 2) % 64) (b := 57343) (by omega) (by omega) c8
                          iterate 3 refine wp_step rfl rfl ?_
                          refine wp_fl rfl rfl h (fun T hf hx => hthr T ?_ hf hx)
                          unfold u8; rw [if_neg (by omega), if_neg (by omega), if_neg (by omega), if_pos c4, if_neg (by omega), if_neg (by omega), if_neg (by omega), if_pos (Or.inr ⟨c7, c8⟩)]
                    · replace c6 := n_ge_f (a := (b p % 16 * 64 + b (p + 1) % 64) * 64 + b (p + 2) % 64) (b := 2048) (by omega) (by omega) c6
                      iterate 3 refine wp_step rfl rfl ?_
                      show wp X _ 53 213 [some (.ref 1), some (.int (nI stop)), some (.int (nI p)), some (.int (nI (b p))), some (.int (Int32.ofInt 2)), some (.int (nI ((b p % 16 * 64 + b (p + 1) % 64) * 64 + b (p + 2) % 64))), some (.int (nI 1)), some (.int (nI (b (p + 2))))] [] S Q
                      refine wp_step rfl rfl ?_
                      refine wp_if_t rfl (by decide) ?_
                      iterate 3 refine wp_step rfl rfl ?_
                      refine wp_fl rfl rfl h (fun T hf hx => hthr T ?_ hf hx)
                      unfold u8; rw [if_neg (by omega), if_neg (by omega), if_neg (by omega), if_pos c4, if_neg (by omega), if_neg (by omega), if_neg (by omega), if_pos (Or.inl c6)]
                  · replace e2 := n_le_f (a := b (p + 2)) (b := 191) (by omega) (by omega) e2
                    iterate 3 refine wp_step rfl rfl ?_
                    refine wp_fl rfl rfl h (fun T hf hx => hthr T ?_ hf hx)
                    unfold u8; rw [if_neg (by omega), if_neg (by omega), if_neg (by omega), if_pos c4, if_neg (by omega), if_neg (by omega), if_pos (Or.inr e2)]
              · replace e1 := n_le_f (a := b (p + 1)) (b := 191) (by omega) (by omega) e1
                iterate 3 refine wp_step rfl rfl ?_
                refine wp_fl rfl rfl h (fun T hf hx => hthr T ?_ hf hx)
                unfold u8; rw [if_neg (by omega), if_neg (by omega), if_neg (by omega), if_pos c4, if_neg (by omega), if_pos (Or.inr e1)]
          · replace c5 := n_lt_f (a := 2) (b := stop - p) (by omega) (by omega) c5
            iterate 3 refine wp_step rfl rfl ?_
            refine wp_fl rfl rfl h (fun T hf hx => hthr T ?_ hf hx)
            unfold u8; rw [if_neg (by omega), if_neg (by omega), if_neg (by omega), if_pos c4, if_pos (by omega)]
      · replace c3 := n_ge_f (a := b p) (b := 224) (by omega) (by omega) c3
        iterate 3 refine wp_step rfl rfl ?_
        show wp X _ 53 63 [some (.ref 1), some (.int (nI stop)), some (.int (nI p)), some (.int (nI (b p))), some (.int (Int32.ofInt 1)), none, none, none] [] S Q
        refine wp_step rfl rfl ?_
        refine wp_if_f rfl (by decide) ?_
        iterate 4 refine wp_step rfl rfl ?_
        rw [pk_sub (by omega)]
        refine wp_icmp rfl (fun c4 => ?_) (fun c4 => ?_)
        · replace c4 := n_lt_t (a := 1) (b := stop - p) (by omega) (by omega) c4
          refine wp_step rfl rfl ?_
          refine wp_if_t rfl (by decide) ?_
          iterate 2 refine wp_step rfl rfl ?_
          refine wp_icmp_f rfl (by decide) ?_
          iterate 4 refine wp_step rfl rfl ?_
          rw [show nI (b p) &&& (Int8.ofInt 31).toInt32 = nI (b p % 32) from pk_andN (by omega) 5 (by decide)]
          iterate 3 refine wp_step rfl rfl ?_
          show wp X _ 53 114 [some (.ref 1), some (.int (nI stop)), some (.int (nI p)), some (.int (nI (b p))), some (.int (Int32.ofInt 1)), some (.int (nI (b p % 32))), some (.int (nI 1)), none] [] S Q
          iterate 2 refine wp_step rfl rfl ?_
          refine wp_icmp_f rfl (by decide) ?_
          refine wp_step rfl rfl ?_
          refine wp_getg rfl h1 (by decide) rfl ?_
          iterate 3 refine wp_step rfl rfl ?_
          rw [nI_add]
          refine wp_ald rfl (Or.inr (Or.inl ⟨rfl, rfl⟩)) (by decide) hB (am_in_nI (by omega) (by decide)) ?_
          rw [nI_clamp (by omega)]
          iterate 2 refine wp_step rfl rfl ?_
          rw [show fb (p + 1) &&& (Int16.ofInt 255).toInt32 = nI (b (p + 1)) from hfb (p + 1) (by omega)]
          refine wp_step rfl rfl ?_
          show wp X _ 53 136 [some (.ref 1), some (.int (nI stop)), some (.int (nI p)), some (.int (nI (b p))), some (.int (Int32.ofInt 1)), some (.int (nI (b p % 32))), some (.int (nI 1)), some (.int (nI (b (p + 1))))] [] S Q
          iterate 2 refine wp_step rfl rfl ?_
          refine wp_icmp rfl (fun d1 => ?_) (fun d1 => ?_)
          · replace d1 := n_lt_t (a := b (p + 1)) (b := 128) (by omega) (by omega) d1
            iterate 3 refine wp_step rfl rfl ?_
            refine wp_fl rfl rfl h (fun T hf hx => hthr T ?_ hf hx)
            unfold u8; rw [if_neg (by omega), if_neg (by omega), if_pos c3, if_neg (by omega), if_pos (Or.inl d1)]
          · replace d1 := n_lt_f (a := b (p + 1)) (b := 128) (by omega) (by omega) d1
            iterate 2 refine wp_step rfl rfl ?_
            refine wp_icmp rfl (fun e1 => ?_) (fun e1 => ?_)
            · replace e1 := n_le_t (a := b (p + 1)) (b := 191) (by omega) (by omega) e1
              iterate 7 refine wp_step rfl rfl ?_
              rw [nI_sh6 (by omega) (by omega)]
              iterate 3 refine wp_step rfl rfl ?_
              rw [show nI 1 + Int32.ofInt 1 = nI 2 from rfl]
              show wp X _ 53 114 [some (.ref 1), some (.int (nI stop)), some (.int (nI p)), some (.int (nI (b p))), some (.int (Int32.ofInt 1)), some (.int (nI (b p % 32 * 64 + b (p + 1) % 64))), some (.int (nI 2)), some (.int (nI (b (p + 1))))] [] S Q
              iterate 2 refine wp_step rfl rfl ?_
              refine wp_icmp_t rfl (by decide) ?_
              iterate 2 refine wp_step rfl rfl ?_
              refine wp_icmp_f rfl (by decide) ?_
              iterate 2 refine wp_step rfl rfl ?_
              refine wp_icmp rfl (fun c5 => ?_) (fun c5 => ?_)
              · replace c5 := n_lt_t (a := b p % 32 * 64 + b (p + 1) % 64) (b := 128) (by omega) (by omega) c5
                iterate 3 refine wp_step rfl rfl ?_
                show wp X _ 53 213 [some (.ref 1), some (.int (nI stop)), some (.int (nI p)), some (.int (nI (b p))), some (.int (Int32.ofInt 1)), some (.int (nI (b p % 32 * 64 + b (p + 1) % 64))), some (.int (nI 1)), some (.int (nI (b (p + 1))))] [] S Q
                refine wp_step rfl rfl ?_
                refine wp_if_t rfl (by decide) ?_
                iterate 3 refine wp_step rfl rfl ?_
                refine wp_fl rfl rfl h (fun T hf hx => hthr T ?_ hf hx)
                unfold u8; rw [if_neg (by omega), if_neg (by omega), if_pos c3, if_neg (by omega), if_neg (by omega), if_pos c5]
              · replace c5 := n_lt_f (a := b p % 32 * 64 + b (p + 1) % 64) (b := 128) (by omega) (by omega) c5
                iterate 2 refine wp_step rfl rfl ?_
                refine wp_icmp_t rfl (by decide) ?_
                iterate 2 refine wp_step rfl rfl ?_
                show wp X _ 53 213 [some (.ref 1), some (.int (nI stop)), some (.int (nI p)), some (.int (nI (b p))), some (.int (Int32.ofInt 1)), some (.int (nI (b p % 32 * 64 + b (p + 1) % 64))), some (.int (nI 0)), some (.int (nI (b (p + 1))))] [] S Q
                refine wp_step rfl rfl ?_
                refine wp_if_f rfl (by decide) ?_
                iterate 2 refine wp_step rfl rfl ?_
                refine wp_icmp rfl (fun c6 => ?_) (fun c6 => ?_)
                · replace c6 := n_lt_t (a := b p % 32 * 64 + b (p + 1) % 64) (b := 55296) (by omega) (by omega) c6
                  iterate 6 refine wp_step rfl rfl ?_
                  rw [show nI p + Int32.ofInt 1 + Int32.ofInt 1 = nI (p + 2) from (by rw [show nI p + Int32.ofInt 1 = nI (p + 1) from nI_add p 1]; exact nI_add (p + 1) 1)]
                  refine wp_putg rfl h1 (by decide) rfl rfl ?_
                  rw [srcG_3]
                  iterate 2 refine wp_step rfl rfl ?_
                  rw [pk_char, pk_tn (by omega), show (b p % 32 * 64 + b (p + 1) % 64) % 65536 = b p % 32 * 64 + b (p + 1) % 64 from Nat.mod_eq_of_lt (by omega)]
                  refine wp_iret rfl rfl (pk_charN (by omega)).1 ?_
                  have h4 := sK_up (x := 0) h (p := p + 2) (l := lim) (i := idp) (by omega) (by omega) (by omega)
                  exact hret _ 2 _ (by unfold u8; rw [if_neg (by omega), if_neg (by omega), if_pos c3, if_neg (by omega), if_neg (by omega), if_neg (by omega)]) h4.1 h4.2
                · replace c6 := n_lt_f (a := b p % 32 * 64 + b (p + 1) % 64) (b := 55296) (by omega) (by omega) c6
                  omega
            · replace e1 := n_le_f (a := b (p + 1)) (b := 191) (by omega) (by omega) e1
              iterate 3 refine wp_step rfl rfl ?_
              refine wp_fl rfl rfl h (fun T hf hx => hthr T ?_ hf hx)
              unfold u8; rw [if_neg (by omega), if_neg (by omega), if_pos c3, if_neg (by omega), if_pos (Or.inr e1)]
        · replace c4 := n_lt_f (a := 1) (b := stop - p) (by omega) (by omega) c4
          iterate 3 refine wp_step rfl rfl ?_
          refine wp_fl rfl rfl h (fun T hf hx => hthr T ?_ hf hx)
          unfold u8; rw [if_neg (by omega), if_neg (by omega), if_pos c3, if_pos (by omega)]
    · replace c2 := n_ge_f (a := b p) (b := 192) (by omega) (by omega) c2
      iterate 3 refine wp_step rfl rfl ?_
      show wp X _ 53 63 [some (.ref 1), some (.int (nI stop)), some (.int (nI p)), some (.int (nI (b p))), some (.int (Int32.ofInt (-1))), none, none, none] [] S Q
      refine wp_step rfl rfl ?_
      refine wp_if_t rfl (by decide) ?_
      iterate 3 refine wp_step rfl rfl ?_
      refine wp_fl rfl rfl h (fun T hf hx => hthr T ?_ hf hx)
      unfold u8; rw [if_neg (by omega), if_pos c2]
  · replace c1 := n_ge_f (a := b p) (b := 128) (by omega) (by omega) c1
    iterate 3 refine wp_step rfl rfl ?_
    show wp X _ 53 63 [some (.ref 1), some (.int (nI stop)), some (.int (nI p)), some (.int (nI (b p))), some (.int (Int32.ofInt 0)), none, none, none] [] S Q
    refine wp_step rfl rfl ?_
    refine wp_if_f rfl (by decide) ?_
    iterate 4 refine wp_step rfl rfl ?_
    rw [pk_sub (by omega)]
    refine wp_icmp rfl (fun c2 => ?_) (fun c2 => ?_)
    · replace c2 := n_lt_t (a := 0) (b := stop - p) (by omega) (by omega) c2
      refine wp_step rfl rfl ?_
      refine wp_if_f rfl (by decide) ?_
      iterate 5 refine wp_step rfl rfl ?_
      show wp X _ 53 114 [some (.ref 1), some (.int (nI stop)), some (.int (nI p)), some (.int (nI (b p))), some (.int (Int32.ofInt 0)), some (.int (nI (b p))), some (.int (nI 1)), none] [] S Q
      iterate 2 refine wp_step rfl rfl ?_
      refine wp_icmp_t rfl (by decide) ?_
      iterate 2 refine wp_step rfl rfl ?_
      refine wp_icmp_t rfl (by decide) ?_
      iterate 2 refine wp_step rfl rfl ?_
      refine wp_icmp_t rfl (by decide) ?_
      iterate 2 refine wp_step rfl rfl ?_
      show wp X _ 53 213 [some (.ref 1), some (.int (nI stop)), some (.int (nI p)), some (.int (nI (b p))), some (.int (Int32.ofInt 0)), some (.int (nI (b p))), some (.int (nI 0)), none] [] S Q
      refine wp_step rfl rfl ?_
      refine wp_if_f rfl (by decide) ?_
      iterate 2 refine wp_step rfl rfl ?_
      refine wp_icmp rfl (fun c3 => ?_) (fun c3 => ?_)
      · replace c3 := n_lt_t (a := b p) (b := 55296) (by omega) (by omega) c3
        iterate 6 refine wp_step rfl rfl ?_
        rw [show nI p + Int32.ofInt 0 + Int32.ofInt 1 = nI (p + 1) from (by rw [show nI p + Int32.ofInt 0 = nI p from nI_add p 0]; exact nI_add p 1)]
        refine wp_putg rfl h1 (by decide) rfl rfl ?_
        rw [srcG_3]
        iterate 2 refine wp_step rfl rfl ?_
        rw [pk_char, pk_tn (by omega), show (b p) % 65536 = b p from Nat.mod_eq_of_lt (by omega)]
        refine wp_iret rfl rfl (pk_charN (by omega)).1 ?_
        have h4 := sK_up (x := 0) h (p := p + 1) (l := lim) (i := idp) (by omega) (by omega) (by omega)
        exact hret _ 1 _ (by unfold u8; rw [if_pos c1]) h4.1 h4.2
      · replace c3 := n_lt_f (a := b p) (b := 55296) (by omega) (by omega) c3
        omega
    · replace c2 := n_lt_f (a := 0) (b := stop - p) (by omega) (by omega) c2
      omega
end LEAF
