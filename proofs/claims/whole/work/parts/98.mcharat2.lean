/-! THE MODEL: the characters of a text that are numbers -/
theorem c16_and (v : Int64) : (v &&& Int64.ofInt 65535).toInt32 = nI (c16 v) := by
  apply Int32.toBitVec_inj.mp
  apply BitVec.eq_of_toNat_eq
  have e1 : ((v &&& Int64.ofInt 65535).toInt32).toBitVec = (v.toBitVec &&& 65535#64).setWidth 32 := by
    rw [Int64.toBitVec_toInt32, BitVec.signExtend_eq_setWidth_of_le _ (by decide), Int64.toBitVec_and]; rfl
  have e2 : v.toInt32.toBitVec = v.toBitVec.setWidth 32 := by
    rw [Int64.toBitVec_toInt32, BitVec.signExtend_eq_setWidth_of_le _ (by decide)]
  rw [e1, BitVec.toNat_setWidth, BitVec.toNat_and]
  show (v.toBitVec.toNat &&& 65535) % 2 ^ 32 = (BitVec.ofNat 32 (c16 v)).toNat
  rw [show (65535 : Nat) = 2 ^ 16 - 1 from rfl, Nat.and_two_pow_sub_one_eq_mod, BitVec.toNat_ofNat]
  unfold c16
  rw [e2, BitVec.toNat_setWidth]
  omega
section MCHARAT2
variable {X : Nat × (Nat → Int32)} {d : Nat} {Q : am_R → Prop} {st li : Int64} {b : Nat → Nat} {w lim : Nat} {i : Int32}
theorem ca4_loop {n stop : Nat} (hb : ∀ j, b j < 256) (hn : n < 2 ^ 31) : ∀ (k m p : Nat) (ls : List Nat) (pe : Nat) (S : am_S) (I : Nat → Int32) (x6 : Option Value), nls b lim k p = .inr (ls, pe) → m + k = n → mR S I st li b w p lim → (∀ T J, fr [408] S T → gf [21] I J → (∃ q, mR T J st li b w q lim) → Q (.inl (some (.int (caR i ls m))), T)) → wp X (d + 2) 140 68 [some (.ref 408), some (.int i), some (.int (nI 4)), some (.int (nI n)), some (.int (nI stop)), some (.int (nI m)), x6] [] S Q := by
  intro k
  induction k with
  | zero =>
    intro m p ls pe S I x6 hu hm h hq
    iterate 2 refine wp_step rfl rfl ?_
    refine wp_icmp_t rfl rfl ?_
    iterate 2 refine wp_step rfl rfl ?_
    refine wp_icmp rfl (fun c0 => ?_) (fun c0 => ?_)
    · replace c0 := n_ge_t (a := m) (b := n) (by omega) (by omega) c0
      rw [nls] at hu
      cases hu
      exact ca_143 (hq S I (fr_refl _ _) (gf_refl _ _) ⟨_, h⟩)
    · replace c0 := n_ge_f (a := m) (b := n) (by omega) (by omega) c0
      omega
  | succ k ih =>
    intro m p ls pe S I x6 hu hm h hq
    iterate 2 refine wp_step rfl rfl ?_
    refine wp_icmp_t rfl rfl ?_
    iterate 2 refine wp_step rfl rfl ?_
    refine wp_icmp rfl (fun c0 => ?_) (fun c0 => ?_)
    · replace c0 := n_ge_t (a := m) (b := n) (by omega) (by omega) c0
      omega
    · replace c0 := n_ge_f (a := m) (b := n) (by omega) (by omega) c0
      iterate 2 refine wp_step rfl rfl ?_
      refine wp_icmp_t rfl rfl ?_
      iterate 2 refine wp_step rfl rfl ?_
      refine wp_icmp_f rfl rfl ?_
      refine wp_step rfl rfl ?_
      refine wp_c0 rfl rfl (by decide) rfl (recv_ok h.1 rfl) rfl (q_mcomp hb h (fun v q T J e1 hf1 hg1 h1 => ?_) (fun v T J e1 hf1 hg1 h1 hq1 => ?_))
      · rw [nls, e1] at hu
        dsimp only at hu
        cases eu : nls b lim k q with
        | inl e => rw [eu] at hu; cases hu
        | inr x =>
          obtain ⟨ls', p2⟩ := x
          rw [eu] at hu
          cases hu
          iterate 3 refine wp_step rfl rfl ?_
          rw [show (v &&& Int64.ofInt 65535).toInt32 = nI (c16 v) from c16_and v]
          iterate 2 refine wp_step rfl rfl ?_
          iterate 2 refine wp_step rfl rfl ?_
          refine wp_icmp rfl (fun c9 => ?_) (fun c9 => ?_)
          · replace c9 := i_ne_t c9
            iterate 2 refine wp_step rfl rfl ?_
            rw [show nI m + Int32.ofInt 1 = nI (m + 1) from nI_add m 1]
            exact ih (m + 1) q _ _ T J _ eu (by omega) h1 (fun T2 J2 hf2 hg2 h2 => by
              have e9 := hq T2 J2 (fr_trans hf1 hf2) (gf_trans hg1 hg2) h2
              rw [caR, if_neg c9] at e9
              exact e9)
          · replace c9 := i_ne_f c9
            refine wp_step rfl rfl ?_
            refine wp_iret rfl rfl rfl ?_
            have e9 := hq T J hf1 hg1 ⟨_, h1⟩
            rw [caR, if_pos c9] at e9
            exact e9
      · rw [nls, e1] at hu; cases hu
end MCHARAT2
