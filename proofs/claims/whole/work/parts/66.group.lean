/-! group, grouped, feed -/
theorem i8_255 (x : Int32) : x.toInt8.toInt32 &&& nI 255 = x &&& nI 255 := by
  apply Int32.toBitVec_inj.mp
  show (x.toBitVec.signExtend 8).signExtend 32 &&& BitVec.ofNat 32 255 = x.toBitVec &&& BitVec.ofNat 32 255
  apply BitVec.eq_of_getLsbD_eq
  intro i hi
  rw [BitVec.getLsbD_and, BitVec.getLsbD_and]
  by_cases h : i < 8
  · rw [BitVec.getLsbD_signExtend, BitVec.getLsbD_signExtend]
    simp [h, hi]
  · rw [show (BitVec.ofNat 32 255).getLsbD i = false from by
      rw [BitVec.getLsbD_ofNat]
      simp only [Bool.and_eq_false_imp]
      intro _
      rw [show (255 : Nat) = 2 ^ 8 - 1 from rfl, Nat.testBit_two_pow_sub_one]
      simp; omega]
    simp
theorem sar_c (x : Int32) (k : Nat) (hk : k ≤ 24) : (x >>> Int32.ofNat k) &&& nI 255 = nI (x.toBitVec.toNat / 2 ^ k % 256) := by
  apply Int32.toBitVec_inj.mp
  have e : ((x >>> Int32.ofNat k).toBitVec) = x.toBitVec.sshiftRight k := by
    show x.toBitVec.sshiftRight' ((BitVec.ofNat 32 k).smod 32) = _
    rw [BitVec.sshiftRight']
    congr 1
    have : ∀ k : Fin 25, ((BitVec.ofNat 32 k.val).smod 32).toNat = k.val := by decide
    exact this ⟨k, by omega⟩
  rw [Int32.toBitVec_and, e]
  show x.toBitVec.sshiftRight k &&& BitVec.ofNat 32 255 = BitVec.ofNat 32 _
  apply BitVec.eq_of_getLsbD_eq
  intro i hi
  rw [BitVec.getLsbD_and]
  have h255 : (BitVec.ofNat 32 255).getLsbD i = decide (i < 8) := by
    rw [BitVec.getLsbD_ofNat, show (255 : Nat) = 2 ^ 8 - 1 from rfl, Nat.testBit_two_pow_sub_one]
    simp [hi]
  rw [h255, BitVec.getLsbD_ofNat, BitVec.getLsbD_sshiftRight]
  rw [show (256 : Nat) = 2 ^ 8 from rfl, Nat.testBit_mod_two_pow, Nat.testBit_div_two_pow]
  by_cases h : i < 8
  · simp only [h, hi, decide_true, Bool.and_true, Bool.true_and]
    rw [if_pos (by omega)]
    rw [show k + i = i + k by omega]
    simp [BitVec.getLsbD]; omega
  · simp [h]
theorem gEnt_len {key : Int64} {gs : List jG} : (gEnt key gs).1.length ≤ gs.length + 1 := by
  unfold gEnt
  split
  · rw [List.length_append]; simp
  · split
    · exact Nat.le_succ _
    · dsimp only; rw [List.length_set]; omega
theorem gAdd_len {g : Nat} {v : Int64} {gs : List jG} : (gAdd g v gs).length = gs.length := by
  unfold gAdd
  split
  · rfl
  · rw [List.length_set]
section GROUP
variable {X : Nat × (Nat → Int32)} {d : Nat} {Q : am_R → Prop} {rec sp tot l : Nat} {cc mp : Int32} {b : Nat → Nat} {A : jVA} {E : jEA} {re : jRe} {xs : List Nat} {ch : Nat → Int32}
set_option maxHeartbeats 2000000 in
theorem gr_loop {by_ path : Int32} (hrec : 11 ≤ rec) (hrec9 : rec + 191 ≤ 393) (hx60 : xs.length ≤ 60) (hxs : chD ch xs) (hxe : ∀ e, e ∈ xs → e < re.2.1.length) : ∀ (m i : Nat) (gs : List jG) (P : jGA) (x4 x5 x6 : Option Value) (S : am_S), i + m = xs.length → gs.length ≤ i → gB gs (2 * i) → am_get S 0 = some (frC rec sp (nI xs.length) mp) → reO S b tot rec l A E re → am_get S 398 = some (iA 60 ch) → grS S (nI gs.length) P → gD P gs →
    (∀ gs' P' T y4 y5 y6, gs' = (xs.drop i).foldl (grp1 b tot re by_ path) gs → fr [401, 402, 403, 404, 405, 406, 407] S T → grS T (nI gs'.length) P' → gD P' gs' → gs'.length ≤ xs.length → wp X (d + 3) 86 129 [some (.ref 0), some (.int by_), some (.int path), some (.int (nI xs.length)), y4, y5, y6] [] T Q) → wp X (d + 3) 86 9 [some (.ref 0), some (.int by_), some (.int path), some (.int (nI i)), x4, x5, x6] [] S Q := by
  intro m
  induction m with
  | zero =>
    intro i gs P x4 x5 x6 S hi hgl hB h0 hO hch h hD hq
    have e9 : i = xs.length := by omega
    subst e9
    iterate 2 refine wp_step rfl rfl ?_
    refine wp_getg rfl h0 (by decide) rfl ?_
    refine wp_icmp rfl (fun c0 => ?_) (fun c0 => ?_)
    · replace c0 := n_ge_t (a := xs.length) (b := xs.length) (by omega) (by omega) c0
      exact hq gs P S _ _ _ (by rw [List.drop_length]; rfl) (fr_refl _ _) h hD hgl
    · replace c0 := n_ge_f (a := xs.length) (b := xs.length) (by omega) (by omega) c0
      omega
  | succ m ih =>
    intro i gs P x4 x5 x6 S hi hgl hB h0 hO hch h hD hq
    iterate 2 refine wp_step rfl rfl ?_
    refine wp_getg rfl h0 (by decide) rfl ?_
    refine wp_icmp rfl (fun c0 => ?_) (fun c0 => ?_)
    · replace c0 := n_ge_t (a := i) (b := xs.length) (by omega) (by omega) c0
      omega
    · replace c0 := n_ge_f (a := i) (b := xs.length) (by omega) (by omega) c0
      obtain ⟨e, he⟩ : ∃ e, xs[i]? = some e := ⟨_, List.getElem?_eq_getElem c0⟩
      have hel := hxe e (mem_at he)
      obtain ⟨y, hy⟩ : ∃ y, re.2.1[e]? = some y := ⟨_, List.getElem?_eq_getElem hel⟩
      have hci := hxs i e he
      have hdr : xs.drop i = e :: xs.drop (i + 1) := by
        rw [List.drop_eq_getElem_cons c0]
        rw [List.getElem?_eq_getElem c0] at he
        cases he
        rfl
      have hr := hO.2.1
      have hv := hO.1
      have nx : ∀ gs1 P1 T x4 x5 x6, grp1 b tot re by_ path gs e = gs1 → fr [401, 402, 403, 404, 405, 406, 407] S T → am_get T 0 = some (frC rec sp (nI xs.length) mp) → reO T b tot rec l A E re → am_get T 398 = some (iA 60 ch) → grS T (nI gs1.length) P1 → gD P1 gs1 → gs1.length ≤ i + 1 → gB gs1 (2 * (i + 1)) → wp X (d + 3) 86 123 [some (.ref 0), some (.int by_), some (.int path), some (.int (nI i)), x4, x5, x6] [] T Q := by
        intro gs1 P1 T x4 x5 x6 e9 hf1 h01 hO1 hch1 h1 hD1 hgl1 hB1
        iterate 2 refine wp_step rfl rfl ?_
        rw [show nI i + Int32.ofInt 1 = nI (i + 1) from nI_add i 1]
        exact ih (i + 1) gs1 P1 _ _ _ T (by omega) hgl1 hB1 h01 hO1 hch1 h1 hD1 (fun gs2 P2 T2 y4 y5 y6 e2 hf2 => hq gs2 P2 T2 y4 y5 y6 (by rw [hdr, List.foldl_cons, e9]; exact e2) (fr_trans hf1 hf2))
      refine wp_step rfl rfl ?_
      refine wp_getg rfl h0 (by decide) rfl ?_
      refine wp_step rfl rfl ?_
      refine wp_getg rfl h0 (by decide) rfl ?_
      refine wp_step rfl rfl ?_
      refine wp_ald rfl (Or.inl ⟨rfl, rfl⟩) (by decide) hch (am_in_nI (by omega) (by decide)) ?_
      rw [nI_clamp (by omega)]
      rw [hci]
      refine wp_step rfl rfl ?_
      refine wp_c0 rfl rfl (by decide) rfl (recv_ok hr.1 rfl) rfl (q_find (by omega) hO hy (fun ck r hck hrs => ?_))
      refine wp_step rfl rfl ?_
      show wp X (d + 3) 86 33 [some (.ref 0), some (.int by_), some (.int path), some (.int (nI i)), some (.int r), x5, x6] [] S Q
      refine wp_step rfl rfl ?_
      refine wp_getg rfl h0 (by decide) rfl ?_
      refine wp_getg rfl hr.1 (by decide) rfl ?_
      refine wp_step rfl rfl ?_
      refine wp_c0 rfl rfl (by decide) rfl (recv_ok hv.1 rfl) rfl (q_isNum hv (by omega) hrs ?_)
      cases hnm : isNm b (ldE b tot re y by_) with
      | false =>
        refine wp_if_t rfl rfl ?_
        exact nx gs P S _ _ _ (by unfold grp1; rw [hy]; dsimp only; rw [if_neg (by rw [hnm]; decide)]) (fr_refl _ _) h0 hO hch h hD (by omega) (gB_up hB (by omega))
      | true =>
        refine wp_if_f rfl rfl ?_
        obtain ⟨o, ho⟩ : ∃ o, ldE b tot re y by_ = some o := by
          cases ho : ldE b tot re y by_ with
          | none => rw [ho] at hnm; exact absurd (show decide ((2 : Nat) ≤ 0 ∧ (0 : Nat) ≤ 7) = true from hnm) (by decide)
          | some o => exact ⟨o, rfl⟩
        have hrs9 := hrs
        rw [ho] at hrs9
        obtain ⟨nd, e9, hnd, hkd, hk13, hk13b, hw, hz⟩ := rsF_at hv hrs9
        subst e9
        have hwr : A.2.1 nd = wrO b tot re y (ldE b tot re y by_) := by
          rw [ho]
          cases o with
          | none => exact hz rfl
          | some w => unfold wrO wrE; dsimp only; rw [hck]; exact (hw w rfl).2
        refine wp_step rfl rfl ?_
        refine wp_getg rfl h0 (by decide) rfl ?_
        refine wp_step rfl rfl ?_
        refine wp_getg rfl h0 (by decide) rfl ?_
        refine wp_getg rfl hr.1 (by decide) rfl ?_
        refine wp_getg rfl hv.1 (by decide) rfl ?_
        refine wp_step rfl rfl ?_
        refine wp_lald rfl (by omega) hv.2.2.1 (am_in_nI (by omega) (by decide)) ?_
        rw [nI_clamp (by omega)]
        rw [hwr]
        refine wp_c0 rfl rfl (by decide) rfl (recv_ok h.1 rfl) rfl (q_enter h hD (by omega) (fun T P1 hf1 h1 hD1 => ?_))
        obtain ⟨hB1, hg1⟩ := gEnt_ok (key := wrO b tot re y (ldE b tot re y by_)) hB
        have hl1 := gEnt_len (key := wrO b tot re y (ldE b tot re y by_)) (gs := gs)
        have h01 : am_get T 0 = some (frC rec sp (nI xs.length) mp) := by rw [fr_get hf1 (by decide)]; exact h0
        have hO1 := reO_fr hO hf1 (fun j hj => by simp at hj; omega)
        have hch1 : am_get T 398 = some (iA 60 ch) := by rw [fr_get hf1 (by decide)]; exact hch
        have hr1 := hO1.2.1
        have hv1 := hO1.1
        refine wp_step rfl rfl ?_
        show wp X (d + 3) 86 70 [some (.ref 0), some (.int by_), some (.int path), some (.int (nI i)), some (.int (nI nd)), some (.int (nI (gEnt (wrO b tot re y (ldE b tot re y by_)) gs).2)), x6] [] T Q
        refine wp_step rfl rfl ?_
        refine wp_getg rfl h01 (by decide) rfl ?_
        refine wp_step rfl rfl ?_
        refine wp_getg rfl h01 (by decide) rfl ?_
        refine wp_step rfl rfl ?_
        refine wp_ald rfl (Or.inl ⟨rfl, rfl⟩) (by decide) hch1 (am_in_nI (by omega) (by decide)) ?_
        rw [nI_clamp (by omega)]
        rw [hci]
        refine wp_step rfl rfl ?_
        refine wp_c0 rfl rfl (by decide) rfl (recv_ok hr1.1 rfl) rfl (q_find (by omega) hO1 hy (fun ck2 r2 hck2 hrs2 => ?_))
        refine wp_step rfl rfl ?_
        show wp X (d + 3) 86 86 [some (.ref 0), some (.int by_), some (.int path), some (.int (nI i)), some (.int (nI nd)), some (.int (nI (gEnt (wrO b tot re y (ldE b tot re y by_)) gs).2)), some (.int r2)] [] T Q
        refine wp_step rfl rfl ?_
        refine wp_getg rfl h01 (by decide) rfl ?_
        refine wp_getg rfl hr1.1 (by decide) rfl ?_
        refine wp_step rfl rfl ?_
        refine wp_c0 rfl rfl (by decide) rfl (recv_ok hv1.1 rfl) rfl (q_isNum hv1 (by omega) hrs2 ?_)
        cases hnm2 : isNm b (ldE b tot re y path) with
        | false =>
          refine wp_if_t rfl rfl ?_
          exact nx _ P1 T _ _ _ (by unfold grp1; rw [hy]; dsimp only; rw [if_pos hnm, if_neg (by rw [hnm2]; decide)]) hf1 h01 hO1 hch1 h1 hD1 (by omega) (gB_up hB1 (by omega))
        | true =>
          refine wp_if_f rfl rfl ?_
          obtain ⟨o2, ho2⟩ : ∃ o, ldE b tot re y path = some o := by
            cases ho : ldE b tot re y path with
            | none => rw [ho] at hnm2; exact absurd (show decide ((2 : Nat) ≤ 0 ∧ (0 : Nat) ≤ 7) = true from hnm2) (by decide)
            | some o => exact ⟨o, rfl⟩
          have hrs8 := hrs2
          rw [ho2] at hrs8
          obtain ⟨nd2, e8, hnd2, hkd2, hk132, hk132b, hw2, hz2⟩ := rsF_at hv1 hrs8
          subst e8
          have hwr2 : A.2.1 nd2 = wrO b tot re y (ldE b tot re y path) := by
            rw [ho2]
            cases o2 with
            | none => exact hz2 rfl
            | some w => unfold wrO wrE; dsimp only; rw [hck2]; exact (hw2 w rfl).2
          obtain ⟨x, hx⟩ : ∃ x, (gEnt (wrO b tot re y (ldE b tot re y by_)) gs).1[(gEnt (wrO b tot re y (ldE b tot re y by_)) gs).2]? = some x := ⟨_, List.getElem?_eq_getElem hg1⟩
          have hxb := hB1.2 x (mem_at hx)
          refine wp_step rfl rfl ?_
          refine wp_getg rfl h01 (by decide) rfl ?_
          iterate 2 refine wp_step rfl rfl ?_
          refine wp_getg rfl h01 (by decide) rfl ?_
          refine wp_getg rfl hr1.1 (by decide) rfl ?_
          refine wp_getg rfl hv1.1 (by decide) rfl ?_
          refine wp_step rfl rfl ?_
          refine wp_lald rfl (by omega) hv1.2.2.1 (am_in_nI (by omega) (by decide)) ?_
          rw [nI_clamp (by omega)]
          rw [hwr2]
          refine wp_c0 rfl rfl (by decide) rfl (recv_ok h1.1 rfl) rfl (q_grAdd h1 hD1 (by omega) hx (by omega) (by omega) (fun T2 P2 hf2 h2 hD2 => ?_))
          exact nx _ P2 T2 _ _ _ (by unfold grp1; rw [hy]; dsimp only; rw [if_pos hnm, if_pos hnm2]) (fr_trans hf1 hf2) (by rw [fr_get hf2 (by decide)]; exact h01) (reO_fr hO1 hf2 (fun j hj => by simp at hj; omega)) (by rw [fr_get hf2 (by decide)]; exact hch1) (by rw [gAdd_len]; exact h2) hD2 (by rw [gAdd_len]; omega) (gB_up (gAdd_ok hB1) (by omega))
theorem q_group {by_ path : Int32} {S : am_S} (h : clR S rec sp (nI xs.length) mp b tot l A E re) (hx60 : xs.length ≤ 60) (hxs : chD ch xs) (hxe : ∀ e, e ∈ xs → e < re.2.1.length) (hch : am_get S 398 = some (iA 60 ch)) (hW : grW S)
    (hq : ∀ P' T, fr [401, 402, 403, 404, 405, 406, 407] S T → grS T (nI (grp b tot re by_ path xs).length) P' → gD P' (grp b tot re by_ path xs) → (grp b tot re by_ path xs).length ≤ xs.length → Q (.inl (some (.int (nI (grp b tot re by_ path xs).length))), T)) : ev X (d + 4) 86 [.ref 0, .int by_, .int path] S Q := by
  refine ev_wp (L0 := [some (.ref 0), some (.int by_), some (.int path), none, none, none, none]) (Nat.le_of_ble_eq_true rfl) rfl ?_
  obtain ⟨h0, hO, hrec, hrec9⟩ := h
  obtain ⟨n, P, hg⟩ := hW
  refine wp_step rfl rfl ?_
  refine wp_getg rfl h0 (by decide) rfl ?_
  refine wp_c0 rfl rfl (by decide) rfl (recv_ok hg.1 rfl) rfl (q_grClear hg.1 (fun T hf1 hg1 => ?_))
  have h01 : am_get T 0 = some (frC rec sp (nI xs.length) mp) := by rw [fr_get hf1 (by decide)]; exact h0
  have hgT : grS T (nI 0) P := ⟨hg1, by rw [fr_get hf1 (by decide)]; exact hg.2.1, by rw [fr_get hf1 (by decide)]; exact hg.2.2.1, by rw [fr_get hf1 (by decide)]; exact hg.2.2.2.1, by rw [fr_get hf1 (by decide)]; exact hg.2.2.2.2.1, by rw [fr_get hf1 (by decide)]; exact hg.2.2.2.2.2.1, by rw [fr_get hf1 (by decide)]; exact hg.2.2.2.2.2.2⟩
  iterate 2 refine wp_step rfl rfl ?_
  refine gr_loop hrec hrec9 hx60 hxs hxe xs.length 0 [] P none none none T (by omega) (Nat.zero_le _) ⟨Nat.zero_le _, fun x hx => by cases hx⟩ h01 (reO_fr hO hf1 (fun j hj => by simp at hj; omega)) (by rw [fr_get hf1 (by decide)]; exact hch) hgT (fun i x hx => by simp at hx) (fun gs P2 T2 y4 y5 y6 e2 hf2 h2 hD2 hl2 => ?_)
  rw [List.drop_zero] at e2
  subst e2
  have h02 : am_get T2 0 = some (frC rec sp (nI xs.length) mp) := by rw [fr_get hf2 (by decide)]; exact h01
  refine wp_step rfl rfl ?_
  refine wp_getg rfl h02 (by decide) rfl ?_
  refine wp_getg rfl h2.1 (by decide) rfl ?_
  refine wp_iret rfl rfl rfl (hq P2 T2 (fr_trans (fr_mono hf1 (fun j hj => by simp only [List.mem_append, List.mem_cons, List.not_mem_nil, or_false, List.mem_range'_1] at hj ⊢; omega)) hf2) h2 hD2 hl2)
def gvl (q : Nat) (x : jG) : Int64 := if q = 0 then x.1 else if q = 1 then lN x.2.1 else if q = 2 then lN x.2.2.1 else if q = 3 then x.2.2.2.1 else if q = 4 then x.2.2.2.2.1 else x.2.2.2.2.2
theorem q_grouped {gi what : Int32} {S : am_S} {gs : List jG} {P : jGA} (h0 : am_get S 0 = some (frC rec sp cc mp)) (h : grS S (nI gs.length) P) (hD : gD P gs) (hl : gs.length ≤ 60) (hB : ∀ x, x ∈ gs → x.2.1 < 2 ^ 31 ∧ x.2.2.1 < 2 ^ 31)
    (hret : ∀ k x q, idx gi gs.length = some k → gs[k]? = some x → what = nI q → q ≤ 5 → Q (.inl (some (.long (gvl q x))), S)) (hthr : idx gi gs.length = none → Q (.inr OOB, am_thrown S)) (hiae : ∀ k, idx gi gs.length = some k → (what.toInt < 0 ∨ (5 : Int) < what.toInt) → Q (.inr IAE, am_thrown S)) : ev X (d + 1) 87 [.ref 0, .int gi, .int what] S Q := by
  refine ev_wp (L0 := [some (.ref 0), some (.int gi), some (.int what)]) (Nat.le_of_ble_eq_true rfl) rfl ?_
  refine wp_step rfl rfl ?_
  refine wp_if rfl (fun c0 => ?_) (fun c0 => ?_)
  · replace c0 := q_lt_t c0
    refine wp_thr rfl (by decide) (hthr (idx_neg c0))
  · replace c0 := q_lt_f c0
    iterate 2 refine wp_step rfl rfl ?_
    refine wp_getg rfl h0 (by decide) rfl ?_
    refine wp_getg rfl h.1 (by decide) rfl ?_
    refine wp_icmp rfl (fun c1 => ?_) (fun c1 => ?_)
    · replace c1 := i_lt_t c1
      obtain ⟨k, hk⟩ := idx_ok (n := gs.length) (by omega) c0 c1
      obtain ⟨e1, e2⟩ := idx_some hk (by omega)
      subst e1
      obtain ⟨x, hx⟩ : ∃ x, gs[k]? = some x := ⟨_, List.getElem?_eq_getElem e2⟩
      obtain ⟨a1, a2, a3, a4, a5, a6⟩ := hD k x hx
      have hxb := hB x (mem_at hx)
      rcases tcase what 5 (by decide) with ⟨q, h8, h9⟩ | h9
      · subst h9
        have hq6 : q = 0 ∨ q = 1 ∨ q = 2 ∨ q = 3 ∨ q = 4 ∨ q = 5 := by omega
        rcases hq6 with rfl | rfl | rfl | rfl | rfl | rfl
        · refine wp_step rfl rfl ?_
          refine wp_tsw (q := 64) rfl rfl ?_
          refine wp_step rfl rfl ?_
          refine wp_getg rfl h0 (by decide) rfl ?_
          refine wp_getg rfl h.1 (by decide) rfl ?_
          refine wp_step rfl rfl ?_
          refine wp_lald rfl (by decide) h.2.1 (am_in_nI (by omega) (by decide)) ?_
          rw [nI_clamp (by omega)]
          rw [a1]
          refine wp_lret rfl rfl (hret k x 0 hk hx rfl (by omega))
        · refine wp_step rfl rfl ?_
          refine wp_tsw (q := 74) rfl rfl ?_
          refine wp_step rfl rfl ?_
          refine wp_getg rfl h0 (by decide) rfl ?_
          refine wp_getg rfl h.1 (by decide) rfl ?_
          refine wp_step rfl rfl ?_
          refine wp_ald rfl (Or.inl ⟨rfl, rfl⟩) (by decide) h.2.2.1 (am_in_nI (by omega) (by decide)) ?_
          rw [nI_clamp (by omega)]
          rw [a2]
          refine wp_step rfl rfl ?_
          rw [nI_l (by omega)]
          refine wp_lret rfl rfl (hret k x 1 hk hx rfl (by omega))
        · refine wp_step rfl rfl ?_
          refine wp_tsw (q := 85) rfl rfl ?_
          refine wp_step rfl rfl ?_
          refine wp_getg rfl h0 (by decide) rfl ?_
          refine wp_getg rfl h.1 (by decide) rfl ?_
          refine wp_step rfl rfl ?_
          refine wp_ald rfl (Or.inl ⟨rfl, rfl⟩) (by decide) h.2.2.2.1 (am_in_nI (by omega) (by decide)) ?_
          rw [nI_clamp (by omega)]
          rw [a3]
          refine wp_step rfl rfl ?_
          rw [nI_l (by omega)]
          refine wp_lret rfl rfl (hret k x 2 hk hx rfl (by omega))
        · refine wp_step rfl rfl ?_
          refine wp_tsw (q := 96) rfl rfl ?_
          refine wp_step rfl rfl ?_
          refine wp_getg rfl h0 (by decide) rfl ?_
          refine wp_getg rfl h.1 (by decide) rfl ?_
          refine wp_step rfl rfl ?_
          refine wp_lald rfl (by decide) h.2.2.2.2.1 (am_in_nI (by omega) (by decide)) ?_
          rw [nI_clamp (by omega)]
          rw [a4]
          refine wp_lret rfl rfl (hret k x 3 hk hx rfl (by omega))
        · refine wp_step rfl rfl ?_
          refine wp_tsw (q := 106) rfl rfl ?_
          refine wp_step rfl rfl ?_
          refine wp_getg rfl h0 (by decide) rfl ?_
          refine wp_getg rfl h.1 (by decide) rfl ?_
          refine wp_step rfl rfl ?_
          refine wp_lald rfl (by decide) h.2.2.2.2.2.1 (am_in_nI (by omega) (by decide)) ?_
          rw [nI_clamp (by omega)]
          rw [a5]
          refine wp_lret rfl rfl (hret k x 4 hk hx rfl (by omega))
        · refine wp_step rfl rfl ?_
          refine wp_tsw (q := 116) rfl rfl ?_
          refine wp_step rfl rfl ?_
          refine wp_getg rfl h0 (by decide) rfl ?_
          refine wp_getg rfl h.1 (by decide) rfl ?_
          refine wp_step rfl rfl ?_
          refine wp_lald rfl (by decide) h.2.2.2.2.2.2 (am_in_nI (by omega) (by decide)) ?_
          rw [nI_clamp (by omega)]
          rw [a6]
          refine wp_lret rfl rfl (hret k x 5 hk hx rfl (by omega))
      · refine wp_step rfl rfl ?_
        refine wp_tswd (q := 126) rfl (h9) rfl ?_
        refine wp_thr rfl (by decide) (hiae k hk h9)
    · replace c1 := i_lt_f c1
      refine wp_thr rfl (by decide) (hthr (idx_ge (by omega) c1))
end GROUP
