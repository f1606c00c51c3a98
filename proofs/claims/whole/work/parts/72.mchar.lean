/-! THE MODEL: a character -/
section MCHAR
variable {X : Nat × (Nat → Int32)} {d : Nat} {Q : am_R → Prop} {S : am_S} {I : Nat → Int32} {st li : Int64} {b : Nat → Nat} {w p lim stop : Nat}
theorem mc_good {more : Nat} {c : Int32} {y6 y7 : Option Value} (h : mR S I st li b w p lim) (hm : p + (more + 1) ≤ 960) (hq : ∀ T J, fr [408] S T → gf [21] I J → mR T J st li b w (p + (more + 1)) lim → Q (.inl (some (.int c)), T)) : wp X d 111 232 [some (.ref 408), some (.int (nI stop)), some (.int (nI (b p))), some (.int (nI more)), some (.int 1), some (.int c), y6, y7] [] S Q := by
  refine wp_step rfl rfl ?_
  refine wp_if_t rfl rfl ?_
  iterate 2 refine wp_step rfl rfl ?_
  refine wp_getg (v := (.int (nI p))) rfl h.1 (by decide) (congrArg Value.int h.2.2.2.1) ?_
  refine wp_step rfl rfl ?_
  refine wp_if_f rfl rfl ?_
  iterate 5 refine wp_step rfl rfl ?_
  rw [show nI p + (nI more + Int32.ofInt 1) = nI (p + (more + 1)) from by rw [show nI more + Int32.ofInt 1 = nI (more + 1) from nI_add more 1, nI_add]]
  refine wp_putg rfl h.1 (by decide) rfl rfl ?_
  rw [mkG_i rfl]
  refine wp_step rfl rfl ?_
  refine wp_iret rfl rfl rfl (hq _ _ (fr_up (by simp)) (gf_up (gf_refl _ _) (by simp)) (mR_at h (fr_up (by simp)) (am_get_self h.1) (gf_up (gf_refl _ _) (by simp)) pk_us hm))
theorem mc_bad {more : Nat} {c : Int32} {y6 y7 : Option Value} (h : mR S I st li b w p lim) (hq : ∀ T J, fr [408] S T → gf [21, 25, 26] I J → mX T J st li 6 p → (∃ q, J 21 = nI q) → Q (.inl (some (.int c)), T)) : wp X (d + 1) 111 232 [some (.ref 408), some (.int (nI stop)), some (.int (nI (b p))), some (.int (nI more)), some (.int 0), some (.int c), y6, y7] [] S Q := by
  refine wp_step rfl rfl ?_
  refine wp_if_f rfl rfl ?_
  iterate 3 refine wp_step rfl rfl ?_
  refine wp_getg (v := (.int (nI p))) rfl h.1 (by decide) (congrArg Value.int h.2.2.2.1) ?_
  refine wp_c0 rfl rfl (by decide) rfl (recv_ok h.1 rfl) rfl (q_mwrong h.1 h.2.2.2.2.2.1 (fun T hf1 h1 => ?_))
  iterate 2 refine wp_step rfl rfl ?_
  refine wp_getg (v := (.int (nI p))) rfl h1 (by decide) (congrArg Value.int ((pk_un (by decide)).trans ((pk_un (by decide)).trans h.2.2.2.1))) ?_
  refine wp_step rfl rfl ?_
  refine wp_if_t rfl rfl ?_
  iterate 2 refine wp_step rfl rfl ?_
  rw [show nI p + Int32.ofInt 0 = nI p from Int32.add_zero _]
  refine wp_putg rfl h1 (by decide) rfl rfl ?_
  rw [mkG_i rfl]
  refine wp_step rfl rfl ?_
  refine wp_iret rfl rfl rfl (hq _ _ (fr_trans hf1 (fr_up (by simp))) (gf_up (gf_up (gf_up (gf_refl _ _) (by simp)) (by simp)) (by simp)) ⟨am_get_self h1, (pk_un (by decide)).trans pk_us, by decide, (pk_un (by decide)).trans ((pk_un (by decide)).trans pk_us)⟩ ⟨p, pk_us⟩)
theorem mc_bad2 {more : Nat} {c : Int32} {y6 y7 : Option Value} (h : mR S I st li b w p lim) (hq : ∀ T J, fr [408] S T → gf [21, 25, 26] I J → mX T J st li 6 p → (∃ q, J 21 = nI q) → Q (.inl (some (.int c)), T)) : wp X (d + 1) 111 177 [some (.ref 408), some (.int (nI stop)), some (.int (nI (b p))), some (.int (nI more)), some (.int 0), some (.int c), y6, y7] [] S Q := by
  refine wp_step rfl rfl ?_
  refine wp_if_t rfl rfl ?_
  iterate 2 refine wp_step rfl rfl ?_
  show wp X (d + 1) 111 232 [some (.ref 408), some (.int (nI stop)), some (.int (nI (b p))), some (.int (nI more)), some (.int 0), some (.int c), y6, y7] [] S Q
  exact mc_bad h hq
set_option maxHeartbeats 4000000 in
theorem q_mchar (hb : ∀ j, b j < 256) (h : mR S I st li b w p lim) (hp : p < stop) (hs : stop ≤ 960)
    (hret : ∀ x m T J, u8 b stop p = some (x, m) → fr [408] S T → gf [21] I J → mR T J st li b w (p + m) lim → Q (.inl (some (.int (nI x))), T))
    (hbad : ∀ c T J, u8 b stop p = none → fr [408] S T → gf [21, 25, 26] I J → mX T J st li 6 p → (∃ q, J 21 = nI q) → Q (.inl (some (.int c)), T)) : ev X (d + 2) 111 [.ref 408, .int (nI stop)] S Q := by
  refine ev_wp (L0 := [some (.ref 408), some (.int (nI stop)), none, none, none, none, none, none]) (Nat.le_of_ble_eq_true rfl) rfl ?_
  obtain ⟨h0, hB, h19, h21, h22, h25, hw, hp9, hl9⟩ := id h
  have hbp := hb p
  have hb1 := hb (p + 1)
  have hb2 := hb (p + 2)
  iterate 2 refine wp_step rfl rfl ?_
  refine wp_getg (v := (.int (nI p))) rfl h0 (by decide) (congrArg Value.int h21) ?_
  refine wp_c0 rfl rfl (by decide) rfl (recv_ok h0 rfl) rfl (q_mget h0 hB h19 hw (by omega) ?_)
  refine wp_step rfl rfl ?_
  show wp X (d + 1) 111 9 [some (.ref 408), some (.int (nI stop)), some (.int (nI (b p))), none, none, none, none, none] [] S Q
  iterate 2 refine wp_step rfl rfl ?_
  refine wp_icmp rfl (fun c0 => ?_) (fun c0 => ?_)
  · replace c0 := n_ge_t (a := b p) (b := 128) (by omega) (by omega) c0
    iterate 2 refine wp_step rfl rfl ?_
    refine wp_icmp rfl (fun c1 => ?_) (fun c1 => ?_)
    · replace c1 := n_lt_t (a := b p) (b := 192) (by omega) (by omega) c1
      iterate 2 refine wp_step rfl rfl ?_
      refine wp_icmp rfl (fun c2 => ?_) (fun c2 => ?_)
      · replace c2 := n_lt_t (a := b p) (b := 224) (by omega) (by omega) c2
        iterate 2 refine wp_step rfl rfl ?_
        show wp X (d + 1) 111 59 [some (.ref 408), some (.int (nI stop)), some (.int (nI (b p))), some (.int (nI 9)), none, none, none, none] [] S Q
        iterate 2 refine wp_step rfl rfl ?_
        refine wp_icmp_t rfl rfl ?_
        iterate 3 refine wp_step rfl rfl ?_
        refine wp_if_t rfl rfl ?_
        iterate 2 refine wp_step rfl rfl ?_
        refine wp_icmp_t rfl rfl ?_
        iterate 6 refine wp_step rfl rfl ?_
        rw [pk_andN (by omega) 4 (by decide)]
        show wp X (d + 1) 111 111 [some (.ref 408), some (.int (nI stop)), some (.int (nI (b p))), some (.int (nI 9)), some (.int 0), some (.int (nI (b p % 2 ^ 4))), some (.int (nI 1)), none] [] S Q
        iterate 2 refine wp_step rfl rfl ?_
        refine wp_icmp_f rfl rfl ?_
        refine wp_step rfl rfl ?_
        refine wp_if_t rfl rfl ?_
        exact mc_bad2 h (fun T J q1 q2 q3 q4 => hbad _ T J (by unfold u8; rw [if_neg (by omega), if_pos c1]) q1 q2 q3 q4)
      · replace c2 := n_lt_f (a := b p) (b := 224) (by omega) (by omega) c2
        omega
    · replace c1 := n_lt_f (a := b p) (b := 192) (by omega) (by omega) c1
      iterate 2 refine wp_step rfl rfl ?_
      refine wp_icmp rfl (fun c2 => ?_) (fun c2 => ?_)
      · replace c2 := n_ge_t (a := b p) (b := 224) (by omega) (by omega) c2
        iterate 2 refine wp_step rfl rfl ?_
        refine wp_icmp rfl (fun c3 => ?_) (fun c3 => ?_)
        · replace c3 := n_lt_t (a := b p) (b := 224) (by omega) (by omega) c3
          omega
        · replace c3 := n_lt_f (a := b p) (b := 224) (by omega) (by omega) c3
          iterate 2 refine wp_step rfl rfl ?_
          refine wp_icmp rfl (fun c4 => ?_) (fun c4 => ?_)
          · replace c4 := n_ge_t (a := b p) (b := 240) (by omega) (by omega) c4
            iterate 2 refine wp_step rfl rfl ?_
            show wp X (d + 1) 111 59 [some (.ref 408), some (.int (nI stop)), some (.int (nI (b p))), some (.int (nI 9)), none, none, none, none] [] S Q
            iterate 2 refine wp_step rfl rfl ?_
            refine wp_icmp_t rfl rfl ?_
            iterate 3 refine wp_step rfl rfl ?_
            refine wp_if_t rfl rfl ?_
            iterate 2 refine wp_step rfl rfl ?_
            refine wp_icmp_t rfl rfl ?_
            iterate 6 refine wp_step rfl rfl ?_
            rw [pk_andN (by omega) 4 (by decide)]
            show wp X (d + 1) 111 111 [some (.ref 408), some (.int (nI stop)), some (.int (nI (b p))), some (.int (nI 9)), some (.int 0), some (.int (nI (b p % 2 ^ 4))), some (.int (nI 1)), none] [] S Q
            iterate 2 refine wp_step rfl rfl ?_
            refine wp_icmp_f rfl rfl ?_
            refine wp_step rfl rfl ?_
            refine wp_if_t rfl rfl ?_
            exact mc_bad2 h (fun T J q1 q2 q3 q4 => hbad _ T J (by unfold u8; rw [if_neg (by omega), if_neg (by omega), if_neg (by omega), if_neg (by omega)]) q1 q2 q3 q4)
          · replace c4 := n_ge_f (a := b p) (b := 240) (by omega) (by omega) c4
            iterate 3 refine wp_step rfl rfl ?_
            show wp X (d + 1) 111 59 [some (.ref 408), some (.int (nI stop)), some (.int (nI (b p))), some (.int (nI 2)), none, none, none, none] [] S Q
            iterate 2 refine wp_step rfl rfl ?_
            refine wp_icmp_f rfl rfl ?_
            refine wp_step rfl rfl ?_
            refine wp_getg (v := (.int (nI p))) rfl h0 (by decide) (congrArg Value.int h21) ?_
            iterate 3 refine wp_step rfl rfl ?_
            rw [show nI p + nI 2 = nI (p + 2) from nI_add p 2]
            refine wp_icmp rfl (fun c5 => ?_) (fun c5 => ?_)
            · replace c5 := n_ge_t (a := p + 2) (b := stop) (by omega) (by omega) c5
              iterate 2 refine wp_step rfl rfl ?_
              show wp X (d + 1) 111 82 [some (.ref 408), some (.int (nI stop)), some (.int (nI (b p))), some (.int (nI 2)), some (.int 0), none, none, none] [] S Q
              refine wp_step rfl rfl ?_
              refine wp_if_t rfl rfl ?_
              iterate 2 refine wp_step rfl rfl ?_
              refine wp_icmp_t rfl rfl ?_
              iterate 6 refine wp_step rfl rfl ?_
              rw [pk_andN (by omega) 4 (by decide)]
              show wp X (d + 1) 111 111 [some (.ref 408), some (.int (nI stop)), some (.int (nI (b p))), some (.int (nI 2)), some (.int 0), some (.int (nI (b p % 2 ^ 4))), some (.int (nI 1)), none] [] S Q
              iterate 2 refine wp_step rfl rfl ?_
              refine wp_icmp_f rfl rfl ?_
              refine wp_step rfl rfl ?_
              refine wp_if_t rfl rfl ?_
              exact mc_bad2 h (fun T J q1 q2 q3 q4 => hbad _ T J (by unfold u8; rw [if_neg (by omega), if_neg (by omega), if_neg (by omega), if_pos (by omega), if_pos (by omega)]) q1 q2 q3 q4)
            · replace c5 := n_ge_f (a := p + 2) (b := stop) (by omega) (by omega) c5
              iterate 3 refine wp_step rfl rfl ?_
              show wp X (d + 1) 111 82 [some (.ref 408), some (.int (nI stop)), some (.int (nI (b p))), some (.int (nI 2)), some (.int 1), none, none, none] [] S Q
              refine wp_step rfl rfl ?_
              refine wp_if_t rfl rfl ?_
              iterate 2 refine wp_step rfl rfl ?_
              refine wp_icmp_t rfl rfl ?_
              iterate 6 refine wp_step rfl rfl ?_
              rw [pk_andN (by omega) 4 (by decide)]
              show wp X (d + 1) 111 111 [some (.ref 408), some (.int (nI stop)), some (.int (nI (b p))), some (.int (nI 2)), some (.int 1), some (.int (nI (b p % 2 ^ 4))), some (.int (nI 1)), none] [] S Q
              iterate 2 refine wp_step rfl rfl ?_
              refine wp_icmp_f rfl rfl ?_
              refine wp_step rfl rfl ?_
              refine wp_if_f rfl rfl ?_
              iterate 2 refine wp_step rfl rfl ?_
              refine wp_getg (v := (.int (nI p))) rfl h0 (by decide) (congrArg Value.int h21) ?_
              iterate 2 refine wp_step rfl rfl ?_
              rw [show nI p + nI 1 = nI (p + 1) from nI_add p 1]
              refine wp_c0 rfl rfl (by decide) rfl (recv_ok h0 rfl) rfl (q_mget h0 hB h19 hw (by omega) ?_)
              refine wp_step rfl rfl ?_
              show wp X (d + 1) 111 135 [some (.ref 408), some (.int (nI stop)), some (.int (nI (b p))), some (.int (nI 2)), some (.int 1), some (.int (nI (b p % 2 ^ 4))), some (.int (nI 1)), some (.int (nI (b (p + 1))))] [] S Q
              iterate 2 refine wp_step rfl rfl ?_
              refine wp_icmp rfl (fun da => ?_) (fun da => ?_)
              · replace da := n_lt_t (a := b (p + 1)) (b := 128) (by omega) (by omega) da
                iterate 2 refine wp_step rfl rfl ?_
                show wp X (d + 1) 111 158 [some (.ref 408), some (.int (nI stop)), some (.int (nI (b p))), some (.int (nI 2)), some (.int 0), some (.int (nI (b p % 2 ^ 4))), some (.int (nI 1)), some (.int (nI (b (p + 1))))] [] S Q
                iterate 7 refine wp_step rfl rfl ?_
                rw [nI_sh6 (by omega) (by omega)]
                iterate 3 refine wp_step rfl rfl ?_
                rw [show nI 1 + Int32.ofInt 1 = nI (1 + 1) from nI_add 1 1]
                show wp X (d + 1) 111 111 [some (.ref 408), some (.int (nI stop)), some (.int (nI (b p))), some (.int (nI 2)), some (.int 0), some (.int (nI ((b p % 2 ^ 4) * 64 + b (p + 1) % 64))), some (.int (nI 2)), some (.int (nI (b (p + 1))))] [] S Q
                iterate 2 refine wp_step rfl rfl ?_
                refine wp_icmp_f rfl rfl ?_
                refine wp_step rfl rfl ?_
                refine wp_if_t rfl rfl ?_
                exact mc_bad2 h (fun T J q1 q2 q3 q4 => hbad _ T J (by unfold u8; rw [if_neg (by omega), if_neg (by omega), if_neg (by omega), if_pos (by omega), if_neg (by omega), if_pos (Or.inl da)]) q1 q2 q3 q4)
              · replace da := n_lt_f (a := b (p + 1)) (b := 128) (by omega) (by omega) da
                iterate 2 refine wp_step rfl rfl ?_
                refine wp_icmp rfl (fun db => ?_) (fun db => ?_)
                · replace db := n_ge_t (a := b (p + 1)) (b := 192) (by omega) (by omega) db
                  iterate 2 refine wp_step rfl rfl ?_
                  show wp X (d + 1) 111 158 [some (.ref 408), some (.int (nI stop)), some (.int (nI (b p))), some (.int (nI 2)), some (.int 0), some (.int (nI (b p % 2 ^ 4))), some (.int (nI 1)), some (.int (nI (b (p + 1))))] [] S Q
                  iterate 7 refine wp_step rfl rfl ?_
                  rw [nI_sh6 (by omega) (by omega)]
                  iterate 3 refine wp_step rfl rfl ?_
                  rw [show nI 1 + Int32.ofInt 1 = nI (1 + 1) from nI_add 1 1]
                  show wp X (d + 1) 111 111 [some (.ref 408), some (.int (nI stop)), some (.int (nI (b p))), some (.int (nI 2)), some (.int 0), some (.int (nI ((b p % 2 ^ 4) * 64 + b (p + 1) % 64))), some (.int (nI 2)), some (.int (nI (b (p + 1))))] [] S Q
                  iterate 2 refine wp_step rfl rfl ?_
                  refine wp_icmp_f rfl rfl ?_
                  refine wp_step rfl rfl ?_
                  refine wp_if_t rfl rfl ?_
                  exact mc_bad2 h (fun T J q1 q2 q3 q4 => hbad _ T J (by unfold u8; rw [if_neg (by omega), if_neg (by omega), if_neg (by omega), if_pos (by omega), if_neg (by omega), if_pos (Or.inr (by omega))]) q1 q2 q3 q4)
                · replace db := n_ge_f (a := b (p + 1)) (b := 192) (by omega) (by omega) db
                  iterate 3 refine wp_step rfl rfl ?_
                  show wp X (d + 1) 111 158 [some (.ref 408), some (.int (nI stop)), some (.int (nI (b p))), some (.int (nI 2)), some (.int 1), some (.int (nI (b p % 2 ^ 4))), some (.int (nI 1)), some (.int (nI (b (p + 1))))] [] S Q
                  iterate 7 refine wp_step rfl rfl ?_
                  rw [nI_sh6 (by omega) (by omega)]
                  iterate 3 refine wp_step rfl rfl ?_
                  rw [show nI 1 + Int32.ofInt 1 = nI (1 + 1) from nI_add 1 1]
                  show wp X (d + 1) 111 111 [some (.ref 408), some (.int (nI stop)), some (.int (nI (b p))), some (.int (nI 2)), some (.int 1), some (.int (nI ((b p % 2 ^ 4) * 64 + b (p + 1) % 64))), some (.int (nI 2)), some (.int (nI (b (p + 1))))] [] S Q
                  iterate 2 refine wp_step rfl rfl ?_
                  refine wp_icmp_f rfl rfl ?_
                  refine wp_step rfl rfl ?_
                  refine wp_if_f rfl rfl ?_
                  iterate 2 refine wp_step rfl rfl ?_
                  refine wp_getg (v := (.int (nI p))) rfl h0 (by decide) (congrArg Value.int h21) ?_
                  iterate 2 refine wp_step rfl rfl ?_
                  rw [show nI p + nI 2 = nI (p + 2) from nI_add p 2]
                  refine wp_c0 rfl rfl (by decide) rfl (recv_ok h0 rfl) rfl (q_mget h0 hB h19 hw (by omega) ?_)
                  refine wp_step rfl rfl ?_
                  show wp X (d + 1) 111 135 [some (.ref 408), some (.int (nI stop)), some (.int (nI (b p))), some (.int (nI 2)), some (.int 1), some (.int (nI ((b p % 2 ^ 4) * 64 + b (p + 1) % 64))), some (.int (nI 2)), some (.int (nI (b (p + 2))))] [] S Q
                  iterate 2 refine wp_step rfl rfl ?_
                  refine wp_icmp rfl (fun ea => ?_) (fun ea => ?_)
                  · replace ea := n_lt_t (a := b (p + 2)) (b := 128) (by omega) (by omega) ea
                    iterate 2 refine wp_step rfl rfl ?_
                    show wp X (d + 1) 111 158 [some (.ref 408), some (.int (nI stop)), some (.int (nI (b p))), some (.int (nI 2)), some (.int 0), some (.int (nI ((b p % 2 ^ 4) * 64 + b (p + 1) % 64))), some (.int (nI 2)), some (.int (nI (b (p + 2))))] [] S Q
                    iterate 7 refine wp_step rfl rfl ?_
                    rw [nI_sh6 (by omega) (by omega)]
                    iterate 3 refine wp_step rfl rfl ?_
                    rw [show nI 2 + Int32.ofInt 1 = nI (2 + 1) from nI_add 2 1]
                    show wp X (d + 1) 111 111 [some (.ref 408), some (.int (nI stop)), some (.int (nI (b p))), some (.int (nI 2)), some (.int 0), some (.int (nI (((b p % 2 ^ 4) * 64 + b (p + 1) % 64) * 64 + b (p + 2) % 64))), some (.int (nI 3)), some (.int (nI (b (p + 2))))] [] S Q
                    iterate 2 refine wp_step rfl rfl ?_
                    refine wp_icmp_t rfl rfl ?_
                    exact mc_bad2 h (fun T J q1 q2 q3 q4 => hbad _ T J (by unfold u8; rw [if_neg (by omega), if_neg (by omega), if_neg (by omega), if_pos (by omega), if_neg (by omega), if_neg (by omega), if_pos (Or.inl ea)]) q1 q2 q3 q4)
                  · replace ea := n_lt_f (a := b (p + 2)) (b := 128) (by omega) (by omega) ea
                    iterate 2 refine wp_step rfl rfl ?_
                    refine wp_icmp rfl (fun eb => ?_) (fun eb => ?_)
                    · replace eb := n_ge_t (a := b (p + 2)) (b := 192) (by omega) (by omega) eb
                      iterate 2 refine wp_step rfl rfl ?_
                      show wp X (d + 1) 111 158 [some (.ref 408), some (.int (nI stop)), some (.int (nI (b p))), some (.int (nI 2)), some (.int 0), some (.int (nI ((b p % 2 ^ 4) * 64 + b (p + 1) % 64))), some (.int (nI 2)), some (.int (nI (b (p + 2))))] [] S Q
                      iterate 7 refine wp_step rfl rfl ?_
                      rw [nI_sh6 (by omega) (by omega)]
                      iterate 3 refine wp_step rfl rfl ?_
                      rw [show nI 2 + Int32.ofInt 1 = nI (2 + 1) from nI_add 2 1]
                      show wp X (d + 1) 111 111 [some (.ref 408), some (.int (nI stop)), some (.int (nI (b p))), some (.int (nI 2)), some (.int 0), some (.int (nI (((b p % 2 ^ 4) * 64 + b (p + 1) % 64) * 64 + b (p + 2) % 64))), some (.int (nI 3)), some (.int (nI (b (p + 2))))] [] S Q
                      iterate 2 refine wp_step rfl rfl ?_
                      refine wp_icmp_t rfl rfl ?_
                      exact mc_bad2 h (fun T J q1 q2 q3 q4 => hbad _ T J (by unfold u8; rw [if_neg (by omega), if_neg (by omega), if_neg (by omega), if_pos (by omega), if_neg (by omega), if_neg (by omega), if_pos (Or.inr (by omega))]) q1 q2 q3 q4)
                    · replace eb := n_ge_f (a := b (p + 2)) (b := 192) (by omega) (by omega) eb
                      iterate 3 refine wp_step rfl rfl ?_
                      show wp X (d + 1) 111 158 [some (.ref 408), some (.int (nI stop)), some (.int (nI (b p))), some (.int (nI 2)), some (.int 1), some (.int (nI ((b p % 2 ^ 4) * 64 + b (p + 1) % 64))), some (.int (nI 2)), some (.int (nI (b (p + 2))))] [] S Q
                      iterate 7 refine wp_step rfl rfl ?_
                      rw [nI_sh6 (by omega) (by omega)]
                      iterate 3 refine wp_step rfl rfl ?_
                      rw [show nI 2 + Int32.ofInt 1 = nI (2 + 1) from nI_add 2 1]
                      show wp X (d + 1) 111 111 [some (.ref 408), some (.int (nI stop)), some (.int (nI (b p))), some (.int (nI 2)), some (.int 1), some (.int (nI (((b p % 2 ^ 4) * 64 + b (p + 1) % 64) * 64 + b (p + 2) % 64))), some (.int (nI 3)), some (.int (nI (b (p + 2))))] [] S Q
                      iterate 2 refine wp_step rfl rfl ?_
                      refine wp_icmp_t rfl rfl ?_
                      refine wp_step rfl rfl ?_
                      refine wp_if_f rfl rfl ?_
                      refine wp_step rfl rfl ?_
                      refine wp_if_f rfl rfl ?_
                      iterate 2 refine wp_step rfl rfl ?_
                      refine wp_icmp_t rfl rfl ?_
                      iterate 2 refine wp_step rfl rfl ?_
                      refine wp_icmp_f rfl rfl ?_
                      have hc9 : (((b p % 2 ^ 4) * 64 + b (p + 1) % 64) * 64 + b (p + 2) % 64) < 2 ^ 31 := by omega
                      iterate 2 refine wp_step rfl rfl ?_
                      refine wp_icmp rfl (fun f1 => ?_) (fun f1 => ?_)
                      · replace f1 := n_le_t (a := ((b p % 2 ^ 4) * 64 + b (p + 1) % 64) * 64 + b (p + 2) % 64) (b := 2047) (by omega) (by omega) f1
                        iterate 2 refine wp_step rfl rfl ?_
                        show wp X (d + 1) 111 232 [some (.ref 408), some (.int (nI stop)), some (.int (nI (b p))), some (.int (nI 2)), some (.int 0), some (.int (nI (((b p % 2 ^ 4) * 64 + b (p + 1) % 64) * 64 + b (p + 2) % 64))), some (.int (nI 3)), some (.int (nI (b (p + 2))))] [] S Q
                        exact mc_bad h (fun T J q1 q2 q3 q4 => hbad _ T J (by unfold u8; rw [if_neg (by omega), if_neg (by omega), if_neg (by omega), if_pos (by omega), if_neg (by omega), if_neg (by omega), if_neg (by omega), if_pos (by omega)]) q1 q2 q3 q4)
                      · replace f1 := n_le_f (a := ((b p % 2 ^ 4) * 64 + b (p + 1) % 64) * 64 + b (p + 2) % 64) (b := 2047) (by omega) (by omega) f1
                        iterate 2 refine wp_step rfl rfl ?_
                        refine wp_icmp rfl (fun f2 => ?_) (fun f2 => ?_)
                        · replace f2 := n_lt_t (a := ((b p % 2 ^ 4) * 64 + b (p + 1) % 64) * 64 + b (p + 2) % 64) (b := 55296) (by omega) (by omega) f2
                          iterate 3 refine wp_step rfl rfl ?_
                          show wp X (d + 1) 111 232 [some (.ref 408), some (.int (nI stop)), some (.int (nI (b p))), some (.int (nI 2)), some (.int 1), some (.int (nI (((b p % 2 ^ 4) * 64 + b (p + 1) % 64) * 64 + b (p + 2) % 64))), some (.int (nI 3)), some (.int (nI (b (p + 2))))] [] S Q
                          exact mc_good h (by omega) (fun T J q1 q2 q3 => hret _ 3 T J (by unfold u8; rw [if_neg (by omega), if_neg (by omega), if_neg (by omega), if_pos (by omega), if_neg (by omega), if_neg (by omega), if_neg (by omega), if_neg (by omega)]) q1 q2 q3)
                        · replace f2 := n_lt_f (a := ((b p % 2 ^ 4) * 64 + b (p + 1) % 64) * 64 + b (p + 2) % 64) (b := 55296) (by omega) (by omega) f2
                          iterate 2 refine wp_step rfl rfl ?_
                          refine wp_icmp rfl (fun f3 => ?_) (fun f3 => ?_)
                          · replace f3 := n_le_t (a := ((b p % 2 ^ 4) * 64 + b (p + 1) % 64) * 64 + b (p + 2) % 64) (b := 57343) (by omega) (by omega) f3
                            iterate 2 refine wp_step rfl rfl ?_
                            show wp X (d + 1) 111 232 [some (.ref 408), some (.int (nI stop)), some (.int (nI (b p))), some (.int (nI 2)), some (.int 0), some (.int (nI (((b p % 2 ^ 4) * 64 + b (p + 1) % 64) * 64 + b (p + 2) % 64))), some (.int (nI 3)), some (.int (nI (b (p + 2))))] [] S Q
                            exact mc_bad h (fun T J q1 q2 q3 q4 => hbad _ T J (by unfold u8; rw [if_neg (by omega), if_neg (by omega), if_neg (by omega), if_pos (by omega), if_neg (by omega), if_neg (by omega), if_neg (by omega), if_pos (by omega)]) q1 q2 q3 q4)
                          · replace f3 := n_le_f (a := ((b p % 2 ^ 4) * 64 + b (p + 1) % 64) * 64 + b (p + 2) % 64) (b := 57343) (by omega) (by omega) f3
                            iterate 3 refine wp_step rfl rfl ?_
                            show wp X (d + 1) 111 232 [some (.ref 408), some (.int (nI stop)), some (.int (nI (b p))), some (.int (nI 2)), some (.int 1), some (.int (nI (((b p % 2 ^ 4) * 64 + b (p + 1) % 64) * 64 + b (p + 2) % 64))), some (.int (nI 3)), some (.int (nI (b (p + 2))))] [] S Q
                            exact mc_good h (by omega) (fun T J q1 q2 q3 => hret _ 3 T J (by unfold u8; rw [if_neg (by omega), if_neg (by omega), if_neg (by omega), if_pos (by omega), if_neg (by omega), if_neg (by omega), if_neg (by omega), if_neg (by omega)]) q1 q2 q3)
      · replace c2 := n_ge_f (a := b p) (b := 224) (by omega) (by omega) c2
        iterate 3 refine wp_step rfl rfl ?_
        show wp X (d + 1) 111 59 [some (.ref 408), some (.int (nI stop)), some (.int (nI (b p))), some (.int (nI 1)), none, none, none, none] [] S Q
        iterate 2 refine wp_step rfl rfl ?_
        refine wp_icmp_f rfl rfl ?_
        refine wp_step rfl rfl ?_
        refine wp_getg (v := (.int (nI p))) rfl h0 (by decide) (congrArg Value.int h21) ?_
        iterate 3 refine wp_step rfl rfl ?_
        rw [show nI p + nI 1 = nI (p + 1) from nI_add p 1]
        refine wp_icmp rfl (fun c5 => ?_) (fun c5 => ?_)
        · replace c5 := n_ge_t (a := p + 1) (b := stop) (by omega) (by omega) c5
          iterate 2 refine wp_step rfl rfl ?_
          show wp X (d + 1) 111 82 [some (.ref 408), some (.int (nI stop)), some (.int (nI (b p))), some (.int (nI 1)), some (.int 0), none, none, none] [] S Q
          refine wp_step rfl rfl ?_
          refine wp_if_t rfl rfl ?_
          iterate 2 refine wp_step rfl rfl ?_
          refine wp_icmp_f rfl rfl ?_
          iterate 7 refine wp_step rfl rfl ?_
          rw [pk_andN (by omega) 5 (by decide)]
          show wp X (d + 1) 111 111 [some (.ref 408), some (.int (nI stop)), some (.int (nI (b p))), some (.int (nI 1)), some (.int 0), some (.int (nI (b p % 2 ^ 5))), some (.int (nI 1)), none] [] S Q
          iterate 2 refine wp_step rfl rfl ?_
          refine wp_icmp_f rfl rfl ?_
          refine wp_step rfl rfl ?_
          refine wp_if_t rfl rfl ?_
          exact mc_bad2 h (fun T J q1 q2 q3 q4 => hbad _ T J (by unfold u8; rw [if_neg (by omega), if_neg (by omega), if_pos (by omega), if_pos (by omega)]) q1 q2 q3 q4)
        · replace c5 := n_ge_f (a := p + 1) (b := stop) (by omega) (by omega) c5
          iterate 3 refine wp_step rfl rfl ?_
          show wp X (d + 1) 111 82 [some (.ref 408), some (.int (nI stop)), some (.int (nI (b p))), some (.int (nI 1)), some (.int 1), none, none, none] [] S Q
          refine wp_step rfl rfl ?_
          refine wp_if_t rfl rfl ?_
          iterate 2 refine wp_step rfl rfl ?_
          refine wp_icmp_f rfl rfl ?_
          iterate 7 refine wp_step rfl rfl ?_
          rw [pk_andN (by omega) 5 (by decide)]
          show wp X (d + 1) 111 111 [some (.ref 408), some (.int (nI stop)), some (.int (nI (b p))), some (.int (nI 1)), some (.int 1), some (.int (nI (b p % 2 ^ 5))), some (.int (nI 1)), none] [] S Q
          iterate 2 refine wp_step rfl rfl ?_
          refine wp_icmp_f rfl rfl ?_
          refine wp_step rfl rfl ?_
          refine wp_if_f rfl rfl ?_
          iterate 2 refine wp_step rfl rfl ?_
          refine wp_getg (v := (.int (nI p))) rfl h0 (by decide) (congrArg Value.int h21) ?_
          iterate 2 refine wp_step rfl rfl ?_
          rw [show nI p + nI 1 = nI (p + 1) from nI_add p 1]
          refine wp_c0 rfl rfl (by decide) rfl (recv_ok h0 rfl) rfl (q_mget h0 hB h19 hw (by omega) ?_)
          refine wp_step rfl rfl ?_
          show wp X (d + 1) 111 135 [some (.ref 408), some (.int (nI stop)), some (.int (nI (b p))), some (.int (nI 1)), some (.int 1), some (.int (nI (b p % 2 ^ 5))), some (.int (nI 1)), some (.int (nI (b (p + 1))))] [] S Q
          iterate 2 refine wp_step rfl rfl ?_
          refine wp_icmp rfl (fun da => ?_) (fun da => ?_)
          · replace da := n_lt_t (a := b (p + 1)) (b := 128) (by omega) (by omega) da
            iterate 2 refine wp_step rfl rfl ?_
            show wp X (d + 1) 111 158 [some (.ref 408), some (.int (nI stop)), some (.int (nI (b p))), some (.int (nI 1)), some (.int 0), some (.int (nI (b p % 2 ^ 5))), some (.int (nI 1)), some (.int (nI (b (p + 1))))] [] S Q
            iterate 7 refine wp_step rfl rfl ?_
            rw [nI_sh6 (by omega) (by omega)]
            iterate 3 refine wp_step rfl rfl ?_
            rw [show nI 1 + Int32.ofInt 1 = nI (1 + 1) from nI_add 1 1]
            show wp X (d + 1) 111 111 [some (.ref 408), some (.int (nI stop)), some (.int (nI (b p))), some (.int (nI 1)), some (.int 0), some (.int (nI ((b p % 2 ^ 5) * 64 + b (p + 1) % 64))), some (.int (nI 2)), some (.int (nI (b (p + 1))))] [] S Q
            iterate 2 refine wp_step rfl rfl ?_
            refine wp_icmp_t rfl rfl ?_
            exact mc_bad2 h (fun T J q1 q2 q3 q4 => hbad _ T J (by unfold u8; rw [if_neg (by omega), if_neg (by omega), if_pos (by omega), if_neg (by omega), if_pos (Or.inl da)]) q1 q2 q3 q4)
          · replace da := n_lt_f (a := b (p + 1)) (b := 128) (by omega) (by omega) da
            iterate 2 refine wp_step rfl rfl ?_
            refine wp_icmp rfl (fun db => ?_) (fun db => ?_)
            · replace db := n_ge_t (a := b (p + 1)) (b := 192) (by omega) (by omega) db
              iterate 2 refine wp_step rfl rfl ?_
              show wp X (d + 1) 111 158 [some (.ref 408), some (.int (nI stop)), some (.int (nI (b p))), some (.int (nI 1)), some (.int 0), some (.int (nI (b p % 2 ^ 5))), some (.int (nI 1)), some (.int (nI (b (p + 1))))] [] S Q
              iterate 7 refine wp_step rfl rfl ?_
              rw [nI_sh6 (by omega) (by omega)]
              iterate 3 refine wp_step rfl rfl ?_
              rw [show nI 1 + Int32.ofInt 1 = nI (1 + 1) from nI_add 1 1]
              show wp X (d + 1) 111 111 [some (.ref 408), some (.int (nI stop)), some (.int (nI (b p))), some (.int (nI 1)), some (.int 0), some (.int (nI ((b p % 2 ^ 5) * 64 + b (p + 1) % 64))), some (.int (nI 2)), some (.int (nI (b (p + 1))))] [] S Q
              iterate 2 refine wp_step rfl rfl ?_
              refine wp_icmp_t rfl rfl ?_
              exact mc_bad2 h (fun T J q1 q2 q3 q4 => hbad _ T J (by unfold u8; rw [if_neg (by omega), if_neg (by omega), if_pos (by omega), if_neg (by omega), if_pos (Or.inr (by omega))]) q1 q2 q3 q4)
            · replace db := n_ge_f (a := b (p + 1)) (b := 192) (by omega) (by omega) db
              iterate 3 refine wp_step rfl rfl ?_
              show wp X (d + 1) 111 158 [some (.ref 408), some (.int (nI stop)), some (.int (nI (b p))), some (.int (nI 1)), some (.int 1), some (.int (nI (b p % 2 ^ 5))), some (.int (nI 1)), some (.int (nI (b (p + 1))))] [] S Q
              iterate 7 refine wp_step rfl rfl ?_
              rw [nI_sh6 (by omega) (by omega)]
              iterate 3 refine wp_step rfl rfl ?_
              rw [show nI 1 + Int32.ofInt 1 = nI (1 + 1) from nI_add 1 1]
              show wp X (d + 1) 111 111 [some (.ref 408), some (.int (nI stop)), some (.int (nI (b p))), some (.int (nI 1)), some (.int 1), some (.int (nI ((b p % 2 ^ 5) * 64 + b (p + 1) % 64))), some (.int (nI 2)), some (.int (nI (b (p + 1))))] [] S Q
              iterate 2 refine wp_step rfl rfl ?_
              refine wp_icmp_t rfl rfl ?_
              refine wp_step rfl rfl ?_
              refine wp_if_f rfl rfl ?_
              refine wp_step rfl rfl ?_
              refine wp_if_f rfl rfl ?_
              iterate 2 refine wp_step rfl rfl ?_
              refine wp_icmp_f rfl rfl ?_
              have hc9 : ((b p % 2 ^ 5) * 64 + b (p + 1) % 64) < 2 ^ 31 := by omega
              iterate 2 refine wp_step rfl rfl ?_
              refine wp_icmp rfl (fun e1 => ?_) (fun e1 => ?_)
              · replace e1 := n_gt_t (a := (b p % 2 ^ 5) * 64 + b (p + 1) % 64) (b := 127) (by omega) (by omega) e1
                iterate 3 refine wp_step rfl rfl ?_
                show wp X (d + 1) 111 232 [some (.ref 408), some (.int (nI stop)), some (.int (nI (b p))), some (.int (nI 1)), some (.int 1), some (.int (nI ((b p % 2 ^ 5) * 64 + b (p + 1) % 64))), some (.int (nI 2)), some (.int (nI (b (p + 1))))] [] S Q
                exact mc_good h (by omega) (fun T J q1 q2 q3 => hret _ 2 T J (by unfold u8; rw [if_neg (by omega), if_neg (by omega), if_pos (by omega), if_neg (by omega), if_neg (by omega), if_neg (by omega)]) q1 q2 q3)
              · replace e1 := n_gt_f (a := (b p % 2 ^ 5) * 64 + b (p + 1) % 64) (b := 127) (by omega) (by omega) e1
                iterate 2 refine wp_step rfl rfl ?_
                refine wp_icmp_t rfl rfl ?_
                iterate 2 refine wp_step rfl rfl ?_
                show wp X (d + 1) 111 232 [some (.ref 408), some (.int (nI stop)), some (.int (nI (b p))), some (.int (nI 1)), some (.int 0), some (.int (nI ((b p % 2 ^ 5) * 64 + b (p + 1) % 64))), some (.int (nI 2)), some (.int (nI (b (p + 1))))] [] S Q
                exact mc_bad h (fun T J q1 q2 q3 q4 => hbad _ T J (by unfold u8; rw [if_neg (by omega), if_neg (by omega), if_pos (by omega), if_neg (by omega), if_neg (by omega), if_pos (by omega)]) q1 q2 q3 q4)
  · replace c0 := n_ge_f (a := b p) (b := 128) (by omega) (by omega) c0
    iterate 3 refine wp_step rfl rfl ?_
    show wp X (d + 1) 111 59 [some (.ref 408), some (.int (nI stop)), some (.int (nI (b p))), some (.int (nI 0)), none, none, none, none] [] S Q
    iterate 2 refine wp_step rfl rfl ?_
    refine wp_icmp_f rfl rfl ?_
    refine wp_step rfl rfl ?_
    refine wp_getg (v := (.int (nI p))) rfl h0 (by decide) (congrArg Value.int h21) ?_
    iterate 3 refine wp_step rfl rfl ?_
    rw [show nI p + nI 0 = nI (p + 0) from nI_add p 0]
    refine wp_icmp rfl (fun c1 => ?_) (fun c1 => ?_)
    · replace c1 := n_ge_t (a := p + 0) (b := stop) (by omega) (by omega) c1
      omega
    · replace c1 := n_ge_f (a := p + 0) (b := stop) (by omega) (by omega) c1
      iterate 3 refine wp_step rfl rfl ?_
      show wp X (d + 1) 111 82 [some (.ref 408), some (.int (nI stop)), some (.int (nI (b p))), some (.int (nI 0)), some (.int 1), none, none, none] [] S Q
      refine wp_step rfl rfl ?_
      refine wp_if_f rfl rfl ?_
      iterate 5 refine wp_step rfl rfl ?_
      show wp X (d + 1) 111 111 [some (.ref 408), some (.int (nI stop)), some (.int (nI (b p))), some (.int (nI 0)), some (.int 1), some (.int (nI (b p))), some (.int (nI 1)), none] [] S Q
      iterate 2 refine wp_step rfl rfl ?_
      refine wp_icmp_t rfl rfl ?_
      refine wp_step rfl rfl ?_
      refine wp_if_f rfl rfl ?_
      refine wp_step rfl rfl ?_
      refine wp_if_t rfl rfl ?_
      iterate 3 refine wp_step rfl rfl ?_
      show wp X (d + 1) 111 232 [some (.ref 408), some (.int (nI stop)), some (.int (nI (b p))), some (.int (nI 0)), some (.int 1), some (.int (nI (b p))), some (.int (nI 1)), none] [] S Q
      exact mc_good h (by omega) (fun T J q1 q2 q3 => hret (b p) 1 T J (by unfold u8; rw [if_pos c0]) q1 q2 q3)
end MCHAR
