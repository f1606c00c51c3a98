/-! THE MODEL: the characters of a text, its loops -/
/-- the letter at i of those from m on, or how many there are, or -1 -/
def caR (i : Int32) : List Nat → Nat → Int32
  | [], m => if i < 0 then nI m else -1
  | x :: ls, m => if nI m = i then nI x else caR i ls (m + 1)
section MCHARAT
variable {X : Nat × (Nat → Int32)} {d : Nat} {Q : am_R → Prop} {st li : Int64} {b : Nat → Nat} {w lim : Nat} {i : Int32}
theorem ca_143 {S : am_S} {n stop m : Nat} {h : Nat} {x6 : Option Value} (hq : Q (.inl (some (.int (caR i [] m))), S)) : wp X d 140 143 [some (.ref 408), some (.int i), some (.int (nI h)), some (.int (nI n)), some (.int (nI stop)), some (.int (nI m)), x6] [] S Q := by
  refine wp_step rfl rfl ?_
  refine wp_if rfl (fun c0 => ?_) (fun c0 => ?_)
  · replace c0 := q_ge_t c0
    refine wp_step rfl rfl ?_
    refine wp_iret rfl rfl rfl ?_
    rw [caR, if_neg (show ¬ i < 0 from Int32.not_lt.mpr c0)] at hq
    exact hq
  · replace c0 := q_ge_f c0
    iterate 2 refine wp_step rfl rfl ?_
    refine wp_iret rfl rfl rfl ?_
    rw [caR, if_pos (show i < 0 from Int32.not_le.mp c0)] at hq
    exact hq
theorem ca5_loop {n stop : Nat} (hb : ∀ j, b j < 256) (hn : n < 2 ^ 31) : ∀ (k m p : Nat) (S : am_S) (I : Nat → Int32) (x6 : Option Value), m + k = n → p + k ≤ lim → mR S I st li b w p lim → (∀ T J, fr [408] S T → gf [21] I J → (∃ q, mR T J st li b w q lim) → Q (.inl (some (.int (caR i (bls b k p) m))), T)) → wp X (d + 2) 140 68 [some (.ref 408), some (.int i), some (.int (nI 5)), some (.int (nI n)), some (.int (nI stop)), some (.int (nI m)), x6] [] S Q := by
  intro k
  induction k with
  | zero =>
    intro m p S I x6 hm hp h hq
    iterate 2 refine wp_step rfl rfl ?_
    refine wp_icmp_t rfl rfl ?_
    iterate 2 refine wp_step rfl rfl ?_
    refine wp_icmp rfl (fun c0 => ?_) (fun c0 => ?_)
    · replace c0 := n_ge_t (a := m) (b := n) (by omega) (by omega) c0
      exact ca_143 (hq S I (fr_refl _ _) (gf_refl _ _) ⟨_, h⟩)
    · replace c0 := n_ge_f (a := m) (b := n) (by omega) (by omega) c0
      omega
  | succ k ih =>
    intro m p S I x6 hm hp h hq
    iterate 2 refine wp_step rfl rfl ?_
    refine wp_icmp_t rfl rfl ?_
    iterate 2 refine wp_step rfl rfl ?_
    refine wp_icmp rfl (fun c0 => ?_) (fun c0 => ?_)
    · replace c0 := n_ge_t (a := m) (b := n) (by omega) (by omega) c0
      omega
    · replace c0 := n_ge_f (a := m) (b := n) (by omega) (by omega) c0
      iterate 2 refine wp_step rfl rfl ?_
      refine wp_icmp_t rfl rfl ?_
      iterate 2 refine wp_step rfl rfl ?_
      refine wp_icmp_t rfl rfl ?_
      refine wp_step rfl rfl ?_
      refine wp_c0 rfl rfl (by decide) rfl (recv_ok h.1 rfl) rfl (q_mnext hb h (fun T J hlt hf1 hg1 h1 => ?_) (fun T J hle hf1 hg1 h1 hq1 => ?_))
      · refine wp_step rfl rfl ?_
        have ES : bls b (k + 1) p = b p :: bls b k (p + 1) := rfl
        iterate 2 refine wp_step rfl rfl ?_
        refine wp_icmp rfl (fun c9 => ?_) (fun c9 => ?_)
        · replace c9 := i_ne_t c9
          iterate 2 refine wp_step rfl rfl ?_
          rw [show nI m + Int32.ofInt 1 = nI (m + 1) from nI_add m 1]
          exact ih (m + 1) (p + 1) T J _ (by omega) (by omega) h1 (fun T2 J2 hf2 hg2 h2 => by
            have e9 := hq T2 J2 (fr_trans hf1 hf2) (gf_trans hg1 hg2) h2
            rw [ES, caR, if_neg c9] at e9
            exact e9)
        · replace c9 := i_ne_f c9
          refine wp_step rfl rfl ?_
          refine wp_iret rfl rfl rfl ?_
          have e9 := hq T J hf1 hg1 ⟨_, h1⟩
          rw [ES, caR, if_pos c9] at e9
          exact e9
      · omega
theorem ca3_loop {n stop : Nat} (hb : ∀ j, b j < 256) (hs : stop ≤ 960) : ∀ (k m p : Nat) (ls : List Nat) (S : am_S) (I : Nat → Int32) (x6 : Option Value), us b stop k p = .inr ls → stop ≤ p + k → m + k < 2 ^ 31 → mR S I st li b w p lim → (∀ T J, fr [408] S T → gf [21] I J → (∃ q, mR T J st li b w q lim) → Q (.inl (some (.int (caR i ls m))), T)) → wp X (d + 2) 140 68 [some (.ref 408), some (.int i), some (.int (nI 3)), some (.int (nI n)), some (.int (nI stop)), some (.int (nI m)), x6] [] S Q := by
  intro k
  induction k with
  | zero =>
    intro m p ls S I x6 hu hp hm h hq
    have hp9 : p ≤ 960 := h.2.2.2.2.2.2.2.1
    iterate 2 refine wp_step rfl rfl ?_
    refine wp_icmp_f rfl rfl ?_
    refine wp_step rfl rfl ?_
    refine wp_getg (v := (.int (nI p))) rfl h.1 (by decide) (congrArg Value.int h.2.2.2.1) ?_
    refine wp_step rfl rfl ?_
    refine wp_icmp rfl (fun c0 => ?_) (fun c0 => ?_)
    · replace c0 := n_ge_t (a := p) (b := stop) (by omega) (by omega) c0
      rw [us] at hu
      cases hu
      exact ca_143 (hq S I (fr_refl _ _) (gf_refl _ _) ⟨_, h⟩)
    · replace c0 := n_ge_f (a := p) (b := stop) (by omega) (by omega) c0
      omega
  | succ k ih =>
    intro m p ls S I x6 hu hp hm h hq
    have hp9 : p ≤ 960 := h.2.2.2.2.2.2.2.1
    iterate 2 refine wp_step rfl rfl ?_
    refine wp_icmp_f rfl rfl ?_
    refine wp_step rfl rfl ?_
    refine wp_getg (v := (.int (nI p))) rfl h.1 (by decide) (congrArg Value.int h.2.2.2.1) ?_
    refine wp_step rfl rfl ?_
    refine wp_icmp rfl (fun c0 => ?_) (fun c0 => ?_)
    · replace c0 := n_ge_t (a := p) (b := stop) (by omega) (by omega) c0
      rw [us, if_pos c0] at hu
      cases hu
      exact ca_143 (hq S I (fr_refl _ _) (gf_refl _ _) ⟨_, h⟩)
    · replace c0 := n_ge_f (a := p) (b := stop) (by omega) (by omega) c0
      refine wp_step rfl rfl ?_
      iterate 2 refine wp_step rfl rfl ?_
      refine wp_icmp_f rfl rfl ?_
      iterate 2 refine wp_step rfl rfl ?_
      refine wp_c0 rfl rfl (by decide) rfl (recv_ok h.1 rfl) rfl (q_mchar hb h c0 hs (fun x mm T J e1 hf1 hg1 h1 => ?_) (fun c T J e1 hf1 hg1 h1 hq1 => ?_))
      · have hm1 := u8_ok e1 c0
        rw [us, if_neg (by omega), e1] at hu
        dsimp only at hu
        cases eu : us b stop k (p + mm) with
        | inl e => rw [eu] at hu; cases hu
        | inr ls' =>
          rw [eu] at hu
          cases hu
          iterate 2 refine wp_step rfl rfl ?_
          iterate 2 refine wp_step rfl rfl ?_
          refine wp_icmp rfl (fun c9 => ?_) (fun c9 => ?_)
          · replace c9 := i_ne_t c9
            iterate 2 refine wp_step rfl rfl ?_
            rw [show nI m + Int32.ofInt 1 = nI (m + 1) from nI_add m 1]
            exact ih (m + 1) (p + mm) _ T J _ eu (by omega) (by omega) h1 (fun T2 J2 hf2 hg2 h2 => by
              have e9 := hq T2 J2 (fr_trans hf1 hf2) (gf_trans hg1 hg2) h2
              rw [caR, if_neg c9] at e9
              exact e9)
          · replace c9 := i_ne_f c9
            refine wp_step rfl rfl ?_
            refine wp_iret rfl rfl rfl ?_
            have e9 := hq T J hf1 hg1 ⟨_, h1⟩
            rw [caR, if_pos c9] at e9
            exact e9
      · rw [us, if_neg (by omega), e1] at hu; cases hu
end MCHARAT
