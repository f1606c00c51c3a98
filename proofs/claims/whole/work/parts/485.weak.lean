/-! the header and the metadata are read from whatever place and limit was left -/
def sJ (S : am_S) (b : Nat → Nat) (tot pos lim idp : Nat) : Prop := am_get S 1 = some (src 0 tot pos lim idp 0 (-1)) ∧ sB S b tot ∧ tot ≤ 960 ∧ pos ≤ 960 ∧ lim ≤ 960 ∧ idp ≤ 960
theorem sJ_K {S : am_S} {b : Nat → Nat} {tot pos lim idp : Nat} (h : sK S b tot pos lim idp) : sJ S b tot pos lim idp := ⟨h.1, h.2.1, by have := h.2.2; omega, by have := h.2.2; omega, by have := h.2.2; omega, by have := h.2.2; omega⟩
theorem sJ_fr {js : List Nat} {S T : am_S} {b : Nat → Nat} {tot pos lim idp : Nat} (h : sJ S b tot pos lim idp) (hf : fr js S T) (h1 : 1 ∉ js) (h2 : 2 ∉ js) : sJ T b tot pos lim idp :=
  ⟨by rw [fr_get hf h1]; exact h.1, sB_fr h.2.1 hf h2, h.2.2⟩
section WEAK
variable {X : Nat × (Nat → Int32)} {d k pc : Nat} {L : am_L} {S : am_S} {Q : am_R → Prop} {b : Nat → Nat} {tot pos lim idp : Nat}
theorem wp_flJ {x len w : Nat} {cst : Int} {a : Int32} {pl : Nat} (hi : am_P k pc = some (.invokevirtual x, len, 44, 3, w, cst)) (hh : (am_M1 k).2.2.2.2 = []) (h : sJ S b tot pos lim idp) (hq : ∀ T, fr [1] S T → sX T tot a pl → Q (.inr IAE, am_thrown T)) : wp X (d + 1) k pc L [.int (nI pl), .int a, .ref 1] S Q := by
  have h2 := h.2.2
  exact wp_fail hi hh h.1 (hq _ (fr_up (by decide)) (sX_up h.1 (by omega) (by omega) (by omega)))
theorem q_headJ {s e : Nat} (h : sJ S b tot pos lim idp) (hs : s ≤ e) (he : e ≤ tot) (hret : ∀ len id p1 p2 T, hd (Bn b) s e = .inr (len, id, p1, p2) → fr [1] S T → sK T b tot p2 (s + len) p1 → Q (.inl (some (.int (nI id))), T)) (hthr : ∀ k pl T, hd (Bn b) s e = .inl (k, pl) → fr [1] S T → sX T tot k pl → Q (.inr IAE, am_thrown T)) : ev X (d + 4) 51 [.ref 1, .int (nI s), .int (nI e)] S Q := by
  obtain ⟨h1, ⟨fb, hB, hb⟩, h2⟩ := h
  refine ev_conv (s_head h1 hB hs (by omega) (by omega)) (fun r hr => ?_)
  have ec : hd (by8 fb) s e = hd (Bn b) s e := hd_congr (fun j hj => hb j (by omega))
  rw [ec] at hr
  rcases hr with ⟨len, id, p1, p2, e1, rfl⟩ | ⟨k, pl, e1, q, l, i, h3, h4, h5, rfl⟩
  · have h3 := hd_ok e1
    have h4 : fr [1] S (am_upd S 1 (src 0 tot p2 (s + len) p1 0 (-1))) ∧ sK (am_upd S 1 (src 0 tot p2 (s + len) p1 0 (-1))) b tot p2 (s + len) p1 := ⟨fr_up (by decide), am_get_self h1, sB_fr ⟨fb, hB, hb⟩ (fr_up (js := [1]) (by decide)) (by decide), h2.1, by omega, by omega, by omega⟩
    exact hret _ _ _ _ _ e1 h4.1 h4.2
  · exact hthr _ _ _ e1 (fr_up (by decide)) (sX_up h1 h3 h4 h5)
theorem q_fixedAtJ {p n : Nat} (h : sJ S b tot pos lim idp) (hpn : p + n ≤ tot) (hret : Q (.inl (some (.long (fx (Bn b) p n))), S)) : ev X (d + 1) 46 [.ref 1, .int (nI p), .int (nI n)] S Q := by
  obtain ⟨h1, ⟨fb, hB, hb⟩, h2⟩ := h
  refine ev_conv (s_fixedAt h1 hB (by omega)) (fun r hr => ?_)
  rw [show fx (by8 fb) p n = fx (Bn b) p n from fx_congr (fun j h3 h4 => hb j (by omega))] at hr
  rw [hr]
  exact hret
theorem q_byteAtJ {p : Nat} (h : sJ S b tot pos lim idp) (hp : p < tot) (hret : Q (.inl (some (.int (nI (b p)))), S)) : ev X (d + 1) 45 [.ref 1, .int (nI p)] S Q := by
  obtain ⟨h1, ⟨fb, hB, hb⟩, h2⟩ := h
  refine ev_conv (s_byteAt h1 hB (by omega)) (fun r hr => ?_)
  rw [show by8 fb p = nI (b p) from hb p hp] at hr
  rw [hr]
  exact hret
end WEAK
section HEADERJ
variable {X : Nat × (Nat → Int32)} {d k pc : Nat} {L : am_L} {st : List Value} {S : am_S} {Q : am_R → Prop} {b : Nat → Nat} {tot pos lim idp c s : Nat} {en : Int32} {tk fq : Int64} {nt nc : Int32}
set_option maxHeartbeats 1000000 in
theorem rh_loopJ (hb : ∀ j, b j < 256) (h : sJ S b tot pos lim idp) (hs : s ≤ tot) :
    ∀ (m i : Nat), i + m = 8 → (hdrF b tot s m i = none → wp X (d + 1) 6 69 [some (.ref c), some (.ref 1), some (.int (nI s)), some (.int (nI 8))] [] S Q) → (∀ k pl T, hdrF b tot s m i = some (k, pl) → fr [1] S T → sX T tot k pl → Q (.inr IAE, am_thrown T)) →
      wp X (d + 1) 6 7 [some (.ref c), some (.ref 1), some (.int (nI s)), some (.int (nI i))] [] S Q := by
  have hk := h.2.2
  intro m
  induction m with
  | zero =>
    intro i hi hret hthr
    iterate 2 refine wp_step rfl rfl ?_
    refine wp_icmp rfl (fun c => ?_) (fun c => ?_)
    · replace c := n_ge_t (a := i) (b := 8) (by omega) (by omega) c
      have e : i = 8 := by omega
      subst e
      exact hret (by unfold hdrF; rfl)
    · replace c := n_ge_f (a := i) (b := 8) (by omega) (by omega) c
      omega
  | succ m ih =>
    intro i hi hret hthr
    iterate 2 refine wp_step rfl rfl ?_
    refine wp_icmp rfl (fun c => ?_) (fun c => ?_)
    · replace c := n_ge_t (a := i) (b := 8) (by omega) (by omega) c
      omega
    · replace c := n_ge_f (a := i) (b := 8) (by omega) (by omega) c
      iterate 4 refine wp_step rfl rfl ?_
      refine wp_getg rfl h.1 (by decide) rfl ?_
      rw [nI_add]
      refine wp_icmp rfl (fun c2 => ?_) (fun c2 => ?_)
      · replace c2 := n_lt_t (a := s + i) (b := tot) (by omega) (by omega) c2
        iterate 2 refine wp_step rfl rfl ?_
        refine wp_step rfl rfl ?_
        refine wp_icmp rfl (fun c3 => ?_) (fun c3 => ?_)
        · replace c3 := n_ge_t (a := i) (b := 5) (by omega) (by omega) c3
          iterate 2 refine wp_step rfl rfl ?_
          rw [show nI i + Int32.ofInt 1 = nI (i + 1) from nI_add i 1]
          exact ih (i + 1) (by omega) (fun e => hret (by unfold hdrF; rw [if_neg (by omega), if_neg (by omega)]; exact e)) (fun k pl T e => hthr k pl T (by unfold hdrF; rw [if_neg (by omega), if_neg (by omega)]; exact e))
        · replace c3 := n_ge_f (a := i) (b := 5) (by omega) (by omega) c3
          iterate 4 refine wp_step rfl rfl ?_
          rw [nI_add]
          refine wp_c0 rfl rfl (by decide) rfl (recv_ok h.1 rfl) rfl (q_byteAtJ h c2 ?_)
          iterate 2 refine wp_step rfl rfl ?_
          refine wp_sig rfl c3 ?_
          have hbi := hb (s + i)
          have hsg := sg_lt i
          refine wp_icmp rfl (fun c4 => ?_) (fun c4 => ?_)
          · replace c4 := n_eq_t (a := b (s + i)) (b := sg i) (by omega) (by omega) c4
            iterate 2 refine wp_step rfl rfl ?_
            rw [show nI i + Int32.ofInt 1 = nI (i + 1) from nI_add i 1]
            exact ih (i + 1) (by omega) (fun e => hret (by unfold hdrF; rw [if_neg (by omega), if_neg (by omega)]; exact e)) (fun k pl T e => hthr k pl T (by unfold hdrF; rw [if_neg (by omega), if_neg (by omega)]; exact e))
          · replace c4 := n_eq_f (a := b (s + i)) (b := sg i) (by omega) (by omega) c4
            iterate 5 refine wp_step rfl rfl ?_
            rw [nI_add]
            refine wp_flJ rfl rfl h (fun T hf hx => hthr 1 (s + i) T ?_ hf hx)
            unfold hdrF; rw [if_neg (by omega), if_pos ⟨c3, c4⟩]
      · replace c2 := n_lt_f (a := s + i) (b := tot) (by omega) (by omega) c2
        iterate 3 refine wp_step rfl rfl ?_
        refine wp_getg rfl h.1 (by decide) rfl ?_
        refine wp_flJ rfl rfl h (fun T hf hx => hthr 2 tot T ?_ hf hx)
        unfold hdrF; rw [if_pos c2]
set_option maxHeartbeats 1000000 in
theorem q_readHeaderJ {st0 : Int32} (hb : ∀ j, b j < 256) (h : sJ S b tot pos lim idp) (hc : am_get S c = some (ckC c st0 en tk fq nt nc)) (hs : s ≤ tot) (hc3 : 3 ≤ c) (hc9 : c < 900000)
    (hret : ∀ z T, rdH b tot s = .inr z → fr [c] S T → am_get T c = some (ckC c (nI s) (nI (s + z)) (lN (w4 b (s + 12))) (lN (w4 b (s + 16))) nt nc) → Q (.inl none, T))
    (hthr : ∀ k pl T, rdH b tot s = .inl (k, pl) → fr [1, c] S T → sX T tot k pl → (∃ st en tk fq, am_get T c = some (ckC c st en tk fq nt nc)) → Q (.inr IAE, am_thrown T)) : ev X (d + 2) 6 [.ref c, .ref 1, .int (nI s)] S Q := by
  refine ev_wp (L0 := [some (.ref c), some (.ref 1), some (.int (nI s)), none]) (Nat.le_of_ble_eq_true rfl) rfl ?_
  have hk0 := h.2.2
  iterate 2 refine wp_step rfl rfl ?_
  refine wp_putg rfl hc (by decide) rfl rfl ?_
  rw [ckG_0]
  have hf0 : fr [c] S (am_upd S c (ckC c (nI s) en tk fq nt nc)) := fr_up (by simp)
  have hk : sJ (am_upd S c (ckC c (nI s) en tk fq nt nc)) b tot pos lim idp := sJ_fr h hf0 (by simp only [List.mem_cons, List.not_mem_nil, or_false]; omega) (by simp only [List.mem_cons, List.not_mem_nil, or_false]; omega)
  have hcc : am_get (am_upd S c (ckC c (nI s) en tk fq nt nc)) c = some (ckC c (nI s) en tk fq nt nc) := am_get_self hc
  generalize am_upd S c (ckC c (nI s) en tk fq nt nc) = S1 at hf0 hk hcc ⊢
  iterate 2 refine wp_step rfl rfl ?_
  refine rh_loopJ hb hk hs 8 0 rfl (fun e1 => ?_) (fun k pl T e1 hf hx => ?_)
  · have h8 := hdrF_none e1
    iterate 5 refine wp_step rfl rfl ?_
    rw [show nI s + (Int8.ofInt 6).toInt32 = nI (s + 6) from nI_add s 6]
    refine wp_c0 rfl rfl (by decide) rfl (recv_ok hk.1 rfl) rfl (q_fixedAtJ (n := 2) hk (by omega) ?_)
    rw [fx_N hb 2 (by decide)]
    refine wp_step rfl rfl ?_
    rw [lN_i]
    have hw2 : w2 b (s + 6) < 65536 := fxN_lt hb (p := s + 6) 2
    iterate 3 refine wp_step rfl rfl ?_
    refine wp_icmp rfl (fun c1 => ?_) (fun c1 => ?_)
    · replace c1 := n_ge_t (a := w2 b (s + 6)) (b := 20) (by omega) (by omega) c1
      iterate 2 refine wp_step rfl rfl ?_
      refine wp_getg rfl hk.1 (by decide) rfl ?_
      iterate 2 refine wp_step rfl rfl ?_
      rw [pk_sub hs]
      refine wp_icmp rfl (fun c2 => ?_) (fun c2 => ?_)
      · replace c2 := n_le_t (a := w2 b (s + 6)) (b := tot - s) (by omega) (by omega) c2
        iterate 4 refine wp_step rfl rfl ?_
        rw [nI_add]
        refine wp_putg rfl hcc (by decide) rfl rfl ?_
        rw [ckG_1]
        have hf2 : fr [c] S (am_upd S1 c (ckC c (nI s) (nI (s + w2 b (s + 6))) tk fq nt nc)) := fr_upd hf0 (by simp)
        have hk2 : sJ (am_upd S1 c (ckC c (nI s) (nI (s + w2 b (s + 6))) tk fq nt nc)) b tot pos lim idp := sJ_fr h hf2 (by simp only [List.mem_cons, List.not_mem_nil, or_false]; omega) (by simp only [List.mem_cons, List.not_mem_nil, or_false]; omega)
        have hc2 : am_get (am_upd S1 c (ckC c (nI s) (nI (s + w2 b (s + 6))) tk fq nt nc)) c = some (ckC c (nI s) (nI (s + w2 b (s + 6))) tk fq nt nc) := am_get_self hcc
        generalize am_upd S1 c (ckC c (nI s) (nI (s + w2 b (s + 6))) tk fq nt nc) = S2 at hf2 hk2 hc2 ⊢
        iterate 6 refine wp_step rfl rfl ?_
        rw [show nI s + (Int8.ofInt 12).toInt32 = nI (s + 12) from nI_add s 12]
        refine wp_c0 rfl rfl (by decide) rfl (recv_ok hk2.1 rfl) rfl (q_fixedAtJ (n := 4) hk2 (by omega) ?_)
        rw [fx_N hb 4 (by decide)]
        refine wp_putg rfl hc2 (by decide) rfl rfl ?_
        rw [ckG_2]
        have hf3 : fr [c] S (am_upd S2 c (ckC c (nI s) (nI (s + w2 b (s + 6))) (lN (w4 b (s + 12))) fq nt nc)) := fr_upd hf2 (by simp)
        have hk3 : sJ (am_upd S2 c (ckC c (nI s) (nI (s + w2 b (s + 6))) (lN (w4 b (s + 12))) fq nt nc)) b tot pos lim idp := sJ_fr h hf3 (by simp only [List.mem_cons, List.not_mem_nil, or_false]; omega) (by simp only [List.mem_cons, List.not_mem_nil, or_false]; omega)
        have hc3 : am_get (am_upd S2 c (ckC c (nI s) (nI (s + w2 b (s + 6))) (lN (w4 b (s + 12))) fq nt nc)) c = some (ckC c (nI s) (nI (s + w2 b (s + 6))) (lN (w4 b (s + 12))) fq nt nc) := am_get_self hc2
        generalize am_upd S2 c (ckC c (nI s) (nI (s + w2 b (s + 6))) (lN (w4 b (s + 12))) fq nt nc) = S3 at hf3 hk3 hc3 ⊢
        iterate 6 refine wp_step rfl rfl ?_
        rw [show nI s + (Int8.ofInt 16).toInt32 = nI (s + 16) from nI_add s 16]
        refine wp_c0 rfl rfl (by decide) rfl (recv_ok hk3.1 rfl) rfl (q_fixedAtJ (n := 4) hk3 (by omega) ?_)
        rw [fx_N hb 4 (by decide)]
        refine wp_putg rfl hc3 (by decide) rfl rfl ?_
        rw [ckG_3]
        have hf4 : fr [c] S (am_upd S3 c (ckC c (nI s) (nI (s + w2 b (s + 6))) (lN (w4 b (s + 12))) (lN (w4 b (s + 16))) nt nc)) := fr_upd hf3 (by simp)
        have hk4 : sJ (am_upd S3 c (ckC c (nI s) (nI (s + w2 b (s + 6))) (lN (w4 b (s + 12))) (lN (w4 b (s + 16))) nt nc)) b tot pos lim idp := sJ_fr h hf4 (by simp only [List.mem_cons, List.not_mem_nil, or_false]; omega) (by simp only [List.mem_cons, List.not_mem_nil, or_false]; omega)
        have hc4 : am_get (am_upd S3 c (ckC c (nI s) (nI (s + w2 b (s + 6))) (lN (w4 b (s + 12))) (lN (w4 b (s + 16))) nt nc)) c = some (ckC c (nI s) (nI (s + w2 b (s + 6))) (lN (w4 b (s + 12))) (lN (w4 b (s + 16))) nt nc) := am_get_self hc3
        generalize am_upd S3 c (ckC c (nI s) (nI (s + w2 b (s + 6))) (lN (w4 b (s + 12))) (lN (w4 b (s + 16))) nt nc) = S4 at hf4 hk4 hc4 ⊢
        refine wp_step rfl rfl ?_
        refine wp_getg (v := .long (lN (w4 b (s + 16)))) rfl hc4 (by decide) rfl ?_
        have hw4 : w4 b (s + 16) < 4294967296 := fxN_lt hb (p := s + 16) 4
        iterate 2 refine wp_step rfl rfl ?_
        refine wp_if rfl (fun c5 => ?_) (fun c5 => ?_)
        · have h5 : ¬ lN (w4 b (s + 16)) < lN 1 := fun h9 => by
            have h10 := (lg_cmp_lt (lN (w4 b (s + 16))) (lN 1)).mpr h9
            have h11 : (0 : Int32) ≤ lg_cmp (lN (w4 b (s + 16))) (lN 1) := of_decide_eq_true c5
            exact absurd h10 (Int32.not_lt.mpr h11)
          rw [pk_lLT (by omega) (by decide)] at h5
          refine wp_vret rfl rfl (hret (w2 b (s + 6)) S4 (by unfold rdH; rw [e1]; dsimp only; rw [if_neg (by omega), if_neg (by omega), if_neg (by omega)]) hf4 hc4)
        · have h5 : lN (w4 b (s + 16)) < lN 1 := by
            have h11 : ¬ (0 : Int32) ≤ lg_cmp (lN (w4 b (s + 16))) (lN 1) := of_decide_eq_false c5
            exact (lg_cmp_lt _ _).mp (Int32.not_le.mp h11)
          rw [pk_lLT (by omega) (by decide)] at h5
          iterate 5 refine wp_step rfl rfl ?_
          rw [show nI s + (Int8.ofInt 16).toInt32 = nI (s + 16) from nI_add s 16]
          refine wp_flJ rfl rfl hk4 (fun T hf5 hx => hthr 1 (s + 16) T ?_ (fr_trans (fr_mono hf4 (fun j hj => by simp only [List.mem_cons, List.not_mem_nil, or_false] at hj ⊢; omega)) (fr_mono hf5 (fun j hj => by simp only [List.mem_cons, List.not_mem_nil, or_false] at hj ⊢; omega))) hx ⟨_, _, _, _, by rw [fr_get hf5 (by simp only [List.mem_cons, List.not_mem_nil, or_false]; omega)]; exact hc4⟩)
          unfold rdH; rw [e1]; dsimp only; rw [if_neg (by omega), if_neg (by omega), if_pos (by omega)]
      · replace c2 := n_le_f (a := w2 b (s + 6)) (b := tot - s) (by omega) (by omega) c2
        iterate 5 refine wp_step rfl rfl ?_
        rw [show nI s + (Int8.ofInt 6).toInt32 = nI (s + 6) from nI_add s 6]
        refine wp_flJ rfl rfl hk (fun T hf2 hx => hthr 2 (s + 6) T ?_ (fr_trans (fr_mono hf0 (fun j hj => by simp only [List.mem_cons, List.not_mem_nil, or_false] at hj ⊢; omega)) (fr_mono hf2 (fun j hj => by simp only [List.mem_cons, List.not_mem_nil, or_false] at hj ⊢; omega))) hx ⟨_, _, _, _, by rw [fr_get hf2 (by simp only [List.mem_cons, List.not_mem_nil, or_false]; omega)]; exact hcc⟩)
        unfold rdH; rw [e1]; dsimp only; rw [if_neg (by omega), if_pos c2]
    · replace c1 := n_ge_f (a := w2 b (s + 6)) (b := 20) (by omega) (by omega) c1
      iterate 5 refine wp_step rfl rfl ?_
      rw [show nI s + (Int8.ofInt 6).toInt32 = nI (s + 6) from nI_add s 6]
      refine wp_flJ rfl rfl hk (fun T hf2 hx => hthr 1 (s + 6) T ?_ (fr_trans (fr_mono hf0 (fun j hj => by simp only [List.mem_cons, List.not_mem_nil, or_false] at hj ⊢; omega)) (fr_mono hf2 (fun j hj => by simp only [List.mem_cons, List.not_mem_nil, or_false] at hj ⊢; omega))) hx ⟨_, _, _, _, by rw [fr_get hf2 (by simp only [List.mem_cons, List.not_mem_nil, or_false]; omega)]; exact hcc⟩)
      unfold rdH; rw [e1]; dsimp only; rw [if_pos c1]
  · exact hthr k pl T (by unfold rdH; rw [e1]) (fr_trans (fr_mono hf0 (fun j hj => by simp only [List.mem_cons, List.not_mem_nil, or_false] at hj ⊢; omega)) (fr_mono hf (fun j hj => by simp only [List.mem_cons, List.not_mem_nil, or_false] at hj ⊢; omega))) hx ⟨_, _, _, _, by rw [fr_get hf (by simp only [List.mem_cons, List.not_mem_nil, or_false]; omega)]; exact hcc⟩
end HEADERJ
section METAL
variable {X : Nat × (Nat → Int32)} {d : Nat} {Q : am_R → Prop} {b : Nat → Nat} {tot lim idp c s e : Nat} {tk fq : Int64} {nc : Int32}
set_option maxHeartbeats 2000000 in
theorem md_loopJ (hb : ∀ j, b j < 256) (hc3 : 3 ≤ c) (hc9 : c < 800000) {n pl0 cp : Nat} (hn : n ≤ 10) :
    ∀ (m i : Nat) (τ : jTT) (p : Nat) (S : am_S) (x6 x7 : Option Value), i + m = n → τ.length = i → wfT τ → sK S b tot p lim idp → am_get S c = some (ckC c (nI s) (nI e) tk fq (nI i) nc) → ckR S c → ckT S c τ → allS S c →
      (∀ τ' p' T x6 x7, rdTs b lim m τ p = .inr (τ', p') → fr (1 :: c :: List.range' (c + 5) 40) S T → sK T b tot p' lim idp → am_get T c = some (ckC c (nI s) (nI e) tk fq (nI n) nc) → ckR T c → ckT T c τ' → allS T c → wp X (d + 5) 7 174 [some (.ref c), some (.ref 1), some (.int (nI pl0)), some (.int (nI cp)), some (.int (nI n)), some (.int (nI n)), x6, x7] [] T Q) →
      (∀ k pl T, rdTs b lim m τ p = .inl (k, pl) → fr (1 :: c :: List.range' (c + 5) 40) S T → sX T tot k pl → ckSh T c → Q (.inr IAE, am_thrown T)) →
      wp X (d + 5) 7 103 [some (.ref c), some (.ref 1), some (.int (nI pl0)), some (.int (nI cp)), some (.int (nI n)), some (.int (nI i)), x6, x7] [] S Q := by
  intro m
  induction m with
  | zero =>
    intro i τ p S x6 x7 hi hτ hwf hk hcc hR hT hA hgo hthr
    iterate 2 refine wp_step rfl rfl ?_
    refine wp_icmp rfl (fun c0 => ?_) (fun c0 => ?_)
    · replace c0 := n_ge_t (a := i) (b := n) (by omega) (by omega) c0
      have e1 : i = n := by omega
      subst e1
      exact hgo τ p S _ _ rfl (fr_refl _ _) hk hcc hR hT hA
    · replace c0 := n_ge_f (a := i) (b := n) (by omega) (by omega) c0
      omega
  | succ m ih =>
    intro i τ p S x6 x7 hi hτ hwf hk hcc hR hT hA hgo hthr
    iterate 2 refine wp_step rfl rfl ?_
    refine wp_icmp rfl (fun c0 => ?_) (fun c0 => ?_)
    · replace c0 := n_ge_t (a := i) (b := n) (by omega) (by omega) c0
      omega
    · replace c0 := n_ge_f (a := i) (b := n) (by omega) (by omega) c0
      refine wp_step rfl rfl ?_
      refine wp_getg rfl hk.1 (by decide) rfl ?_
      iterate 2 refine wp_step rfl rfl ?_
      refine wp_c0 rfl rfl (by decide) rfl (recv_ok hk.1 rfl) rfl (q_count hk (fun id p1 T1 hcn hf1 hk1 => ?_) (fun T1 hcn hf1 hx1 => ?_))
      · have hid := cnt_lt hcn
        have hcc1 : am_get T1 c = some (ckC c (nI s) (nI e) tk fq (nI i) nc) := by rw [fr_get hf1 (by simp only [List.mem_cons, List.not_mem_nil, or_false, List.mem_range'_1]; omega)]; exact hcc
        have hR1 := ckR_fr hR hf1 (by simp only [List.mem_cons, List.not_mem_nil, or_false, List.mem_range'_1]; omega)
        have hT1 := ckT_fr hT hwf.1 hf1 (fun j hj => by simp only [List.mem_cons, List.not_mem_nil, or_false] at hj; omega)
        have hA1 := allS_fr hA hf1 (fun j hj => by simp only [List.mem_cons, List.not_mem_nil, or_false] at hj; omega)
        have hf1J := fr_mono (ks := (1 :: c :: List.range' (c + 5) 40)) hf1 (fun j hj => by simp only [List.mem_cons, List.not_mem_nil, or_false, List.mem_range'_1] at hj ⊢; omega)
        have bad : ∀ x7, (id < 16 ∨ tix τ id ≠ none) → wp X (d + 5) 7 138 [some (.ref c), some (.ref 1), some (.int (nI pl0)), some (.int (nI cp)), some (.int (nI n)), some (.int (nI i)), some (.int (nI p)), x7] [] T1 Q := by
          intro x7 hbad
          iterate 3 refine wp_step rfl rfl ?_
          refine wp_fl rfl rfl hk1 (fun T2 hf2 hx2 => hthr 4 p T2 ?_ (fr_trans hf1J (fr_mono hf2 (fun j hj => by simp only [List.mem_cons, List.not_mem_nil, or_false, List.mem_range'_1] at hj ⊢; omega))) hx2 ⟨⟨_, _, _, _, _, _, by rw [fr_get hf2 (by simp only [List.mem_cons, List.not_mem_nil, or_false, List.mem_range'_1]; omega)]; exact hcc1⟩, ckR_fr hR1 hf2 (by simp only [List.mem_cons, List.not_mem_nil, or_false, List.mem_range'_1]; omega), allS_fr hA1 hf2 (fun j hj => by simp only [List.mem_cons, List.not_mem_nil, or_false] at hj; omega)⟩)
          unfold rdTs; rw [hcn]; dsimp only; rw [if_pos hbad]
        have hO : ckO T1 c τ := ⟨⟨_, _, _, _, _, by rw [hτ]; exact hcc1⟩, hR1, hT1⟩
        iterate 3 refine wp_step rfl rfl ?_
        refine wp_icmp rfl (fun c1 => ?_) (fun c1 => ?_)
        · replace c1 := n_lt_t (a := id) (b := 16) (by omega) (by omega) c1
          exact bad _ (Or.inl c1)
        · replace c1 := n_lt_f (a := id) (b := 16) (by omega) (by omega) c1
          iterate 2 refine wp_step rfl rfl ?_
          refine wp_c0 rfl rfl (by decide) rfl (recv_ok hcc1 rfl) rfl (q_tw hwf hO (by omega) (by omega) ?_)
          cases hx : tix τ id with
          | some u =>
            rw [show oI (some u) = nI u from rfl]
            obtain ⟨z, hz, hz1, hul⟩ := tix_some hx
            have hl9 := hwf.1
            refine wp_if_f rfl (show am_c1 .lt (nI u) = false from decide_eq_false (nI_pos (by omega))) ?_
            exact bad _ (Or.inr (by rw [hx]; simp))
          | none =>
            refine wp_if_t rfl (by decide) ?_
            have hn2 : ¬ (id < 16 ∨ tix τ id ≠ none) := by rw [hx]; simp; omega
            have hR1c := hR1
            obtain ⟨F, hF1, hF⟩ := hR1c
            refine wp_step rfl rfl ?_
            refine wp_getg rfl hcc1 (by decide) rfl ?_
            refine wp_step rfl rfl ?_
            refine wp_aald rfl (by omega) hF1 (by decide) (am_in_nI (by omega) (by decide)) ?_
            rw [nI_clamp (by omega)]
            rw [hF i (by omega)]
            obtain ⟨z1, z2, z3, z4, z5, z6, z7, hz0, hzz⟩ : cTs T1 (c + 5 + 4 * i) := hA1 i (by omega)
            iterate 2 refine wp_step rfl rfl ?_
            refine wp_c0 rfl rfl (by decide) rfl (recv_ok hz0 rfl) rfl (q_typeRead hb hk1 (hA1 i (by omega)) (by omega) (by omega) (fun y p2 T2 e2 hf2 hk2 hy => ?_) (fun k pl T2 e2 hf2 hx2 hs2 => ?_))
            · have hcc2 : am_get T2 c = some (ckC c (nI s) (nI e) tk fq (nI i) nc) := by rw [fr_get hf2 (by simp only [List.mem_cons, List.not_mem_nil, or_false, List.mem_range'_1]; omega)]; exact hcc1
              obtain ⟨hyo, hy1, hp2, hp2l⟩ := rdT1_ok e2 c1 hid.1
              have hR2 := ckR_fr hR1 hf2 (by simp only [List.mem_cons, List.not_mem_nil, or_false, List.mem_range'_1]; omega)
              have hT2 := ckT_fr hT1 hwf.1 hf2 (fun j hj => by simp only [List.mem_cons, List.not_mem_nil, or_false] at hj; omega)
              have hT3 := ckT_add hT2 (x := y) (by rw [hτ]; exact hy)
              have hA2 := allS_one hA1 (by omega) hf2 hc3 (cT_s hy)
              iterate 2 refine wp_step rfl rfl ?_
              refine wp_getg rfl hcc2 (by decide) rfl ?_
              iterate 2 refine wp_step rfl rfl ?_
              rw [show nI i + Int32.ofInt 1 = nI (i + 1) from nI_add i 1]
              refine wp_putg rfl hcc2 (by decide) rfl rfl ?_
              rw [ckG_4]
              iterate 2 refine wp_step rfl rfl ?_
              rw [show nI i + Int32.ofInt 1 = nI (i + 1) from nI_add i 1]
              have hf3 : fr [c] T2 (am_upd T2 c (ckC c (nI s) (nI e) tk fq (nI (i + 1)) nc)) := fr_up (by simp)
              refine ih (i + 1) (τ ++ [y]) p2 _ _ _ (by omega) (by simp; omega) (wf_add hwf (by omega) hyo (by rw [hy1]; exact hx)) (sK_fr hk2 hf3 (by simp only [List.mem_cons, List.not_mem_nil, or_false, List.mem_range'_1]; omega) (by simp only [List.mem_cons, List.not_mem_nil, or_false, List.mem_range'_1]; omega)) (am_get_self hcc2) (ckR_fr hR2 hf3 (by simp only [List.mem_cons, List.not_mem_nil, or_false, List.mem_range'_1]; omega)) (ckT_fr hT3 (by simp; omega) hf3 (fun j hj => by simp only [List.mem_cons, List.not_mem_nil, or_false] at hj; omega)) (allS_fr hA2 hf3 (fun j hj => by simp only [List.mem_cons, List.not_mem_nil, or_false] at hj; omega)) (fun τ' p' T x6 x7 e3 hf4 => hgo τ' p' T x6 x7 (by unfold rdTs; rw [hcn]; dsimp only; rw [if_neg hn2, e2]; exact e3) (fr_trans hf1J (fr_trans (fr_mono hf2 (fun j hj => by simp only [List.mem_cons, List.not_mem_nil, or_false, List.mem_range'_1] at hj ⊢; omega)) (fr_trans (fr_mono hf3 (fun j hj => by simp only [List.mem_cons, List.not_mem_nil, or_false, List.mem_range'_1] at hj ⊢; omega)) hf4)))) (fun k pl T e3 hf4 => hthr k pl T (by unfold rdTs; rw [hcn]; dsimp only; rw [if_neg hn2, e2]; exact e3) (fr_trans hf1J (fr_trans (fr_mono hf2 (fun j hj => by simp only [List.mem_cons, List.not_mem_nil, or_false, List.mem_range'_1] at hj ⊢; omega)) (fr_trans (fr_mono hf3 (fun j hj => by simp only [List.mem_cons, List.not_mem_nil, or_false, List.mem_range'_1] at hj ⊢; omega)) hf4))))
            · exact hthr k pl T2 (by unfold rdTs; rw [hcn]; dsimp only; rw [if_neg hn2, e2]) (fr_trans hf1J (fr_mono hf2 (fun j hj => by simp only [List.mem_cons, List.not_mem_nil, or_false, List.mem_range'_1] at hj ⊢; omega))) hx2 ⟨⟨_, _, _, _, _, _, by rw [fr_get hf2 (by simp only [List.mem_cons, List.not_mem_nil, or_false, List.mem_range'_1]; omega)]; exact hcc1⟩, ckR_fr hR1 hf2 (by simp only [List.mem_cons, List.not_mem_nil, or_false, List.mem_range'_1]; omega), allS_one hA1 (by omega) hf2 hc3 hs2⟩
      · exact hthr _ _ _ (by unfold rdTs; rw [hcn]) (fr_mono hf1 (fun j hj => by simp only [List.mem_cons, List.not_mem_nil, or_false, List.mem_range'_1] at hj ⊢; omega)) hx1 ⟨⟨_, _, _, _, _, _, by rw [fr_get hf1 (by simp only [List.mem_cons, List.not_mem_nil, or_false, List.mem_range'_1]; omega)]; exact hcc⟩, ckR_fr hR hf1 (by simp only [List.mem_cons, List.not_mem_nil, or_false, List.mem_range'_1]; omega), allS_fr hA hf1 (fun j hj => by simp only [List.mem_cons, List.not_mem_nil, or_false] at hj; omega)⟩
end METAL
section METAJ
variable {X : Nat × (Nat → Int32)} {d : Nat} {Q : am_R → Prop} {b : Nat → Nat} {tot pos lim idp c s e : Nat} {tk fq : Int64} {nt nc : Int32} {S : am_S}
set_option maxHeartbeats 1000000 in
theorem q_readMetadataJ (hb : ∀ j, b j < 256) (h : sJ S b tot pos lim idp) (hc3 : 3 ≤ c) (hc9 : c < 800000) (hcc : am_get S c = some (ckC c (nI s) (nI e) tk fq nt nc)) (hR : ckR S c) (hA : allS S c) (hs : s + 20 ≤ e) (he : e ≤ tot)
    (hret : ∀ τ T, rdM b s e = .inr τ → wfT τ → fht τ → nocyc τ → fr (1 :: c :: List.range' (c + 5) 40) S T → (∃ pos lim idp, sK T b tot pos lim idp) → am_get T c = some (ckC c (nI s) (nI e) tk fq (nI τ.length) nc) → ckR T c → ckT T c τ → allS T c → Q (.inl none, T))
    (hthr : ∀ k pl T, (rdM b s e = .inl (k, pl) ∨ ∃ τ, rdM b s e = .inr τ ∧ wfT τ ∧ (¬ fht τ ∨ ring τ) ∧ k = 4 ∧ pl = s + w2 b (s + 8)) → fr (1 :: c :: List.range' (c + 5) 40) S T → sX T tot k pl → ckSh T c → Q (.inr IAE, am_thrown T)) : ev X (d + 6) 7 [.ref c, .ref 1] S Q := by
  refine ev_wp (L0 := [some (.ref c), some (.ref 1), none, none, none, none, none, none]) (Nat.le_of_ble_eq_true rfl) rfl ?_
  have hk0 := h.2.2
  have hw2 : w2 b (s + 8) < 65536 := fxN_lt hb (p := s + 8) 2
  refine wp_step rfl rfl ?_
  refine wp_getg rfl hcc (by decide) rfl ?_
  iterate 2 refine wp_step rfl rfl ?_
  refine wp_getg rfl hcc (by decide) rfl ?_
  iterate 3 refine wp_step rfl rfl ?_
  rw [show nI s + (Int8.ofInt 8).toInt32 = nI (s + 8) from nI_add s 8]
  refine wp_c0 rfl rfl (by decide) rfl (recv_ok h.1 rfl) rfl (q_fixedAtJ (n := 2) h (by omega) ?_)
  rw [show fx (Bn b) (s + 8) 2 = lN (w2 b (s + 8)) from fx_N hb 2 (by decide)]
  refine wp_step rfl rfl ?_
  rw [lN_i]
  refine wp_step rfl rfl ?_
  rw [nI_add]
  have bad : (w2 b (s + 8) < 20 ∨ e ≤ s + w2 b (s + 8)) → wp X (d + 5) 7 38 [some (.ref c), some (.ref 1), some (.int (nI (s + w2 b (s + 8)))), none, none, none, none, none] [] S Q := by
    intro hbad
    iterate 3 refine wp_step rfl rfl ?_
    refine wp_getg rfl hcc (by decide) rfl ?_
    iterate 2 refine wp_step rfl rfl ?_
    rw [show nI s + (Int8.ofInt 8).toInt32 = nI (s + 8) from nI_add s 8]
    refine wp_flJ rfl rfl h (fun T hf hx => hthr 3 (s + 8) T (Or.inl ?_) (fr_mono hf (fun j hj => by simp only [List.mem_cons, List.not_mem_nil, or_false, List.mem_range'_1] at hj ⊢; omega)) hx ⟨⟨_, _, _, _, _, _, by rw [fr_get hf (by simp only [List.mem_cons, List.not_mem_nil, or_false, List.mem_range'_1]; omega)]; exact hcc⟩, ckR_fr hR hf (by simp only [List.mem_cons, List.not_mem_nil, or_false, List.mem_range'_1]; omega), allS_fr hA hf (fun j hj => by simp only [List.mem_cons, List.not_mem_nil, or_false] at hj; omega)⟩)
    unfold rdM; rw [if_pos hbad]
  iterate 3 refine wp_step rfl rfl ?_
  refine wp_getg rfl hcc (by decide) rfl ?_
  iterate 2 refine wp_step rfl rfl ?_
  rw [show nI s + (Int8.ofInt 20).toInt32 = nI (s + 20) from nI_add s 20]
  refine wp_icmp rfl (fun c1 => ?_) (fun c1 => ?_)
  · replace c1 := n_lt_t (a := s + w2 b (s + 8)) (b := s + 20) (by omega) (by omega) c1
    exact bad (Or.inl (by omega))
  · replace c1 := n_lt_f (a := s + w2 b (s + 8)) (b := s + 20) (by omega) (by omega) c1
    iterate 2 refine wp_step rfl rfl ?_
    refine wp_getg rfl hcc (by decide) rfl ?_
    refine wp_icmp rfl (fun c2 => ?_) (fun c2 => ?_)
    · replace c2 := n_lt_t (a := s + w2 b (s + 8)) (b := e) (by omega) (by omega) c2
      have hn1 : ¬ (w2 b (s + 8) < 20 ∨ e ≤ s + w2 b (s + 8)) := by omega
      iterate 3 refine wp_step rfl rfl ?_
      refine wp_getg rfl hcc (by decide) rfl ?_
      refine wp_c0 rfl rfl (by decide) rfl (recv_ok h.1 rfl) rfl (q_headJ (s := s + w2 b (s + 8)) h (by omega) he (fun len id p1 p2 T1 hh hf1 hk1 => ?_) (fun k pl T1 hh hf1 hx1 => ?_))
      · have hho := hd_ok hh
        have hcc1 : am_get T1 c = some (ckC c (nI s) (nI e) tk fq nt nc) := by rw [fr_get hf1 (by simp only [List.mem_cons, List.not_mem_nil, or_false, List.mem_range'_1]; omega)]; exact hcc
        have hR1 := ckR_fr hR hf1 (by simp only [List.mem_cons, List.not_mem_nil, or_false, List.mem_range'_1]; omega)
        have hA1 := allS_fr hA hf1 (fun j hj => by simp only [List.mem_cons, List.not_mem_nil, or_false] at hj; omega)
        have hf1J := fr_mono (ks := (1 :: c :: List.range' (c + 5) 40)) hf1 (fun j hj => by simp only [List.mem_cons, List.not_mem_nil, or_false, List.mem_range'_1] at hj ⊢; omega)
        refine wp_if rfl (fun c3 => ?_) (fun c3 => ?_)
        · replace c3 := z_eq_t (a := id) (by omega) c3
          refine wp_step rfl rfl ?_
          refine wp_getg rfl hk1.1 (by decide) rfl ?_
          iterate 2 refine wp_step rfl rfl ?_
          refine wp_c0 rfl rfl (by decide) rfl (recv_ok hk1.1 rfl) rfl (q_count hk1 (fun n p3 T2 hcn hf2 hk2 => ?_) (fun T2 hcn hf2 hx2 => ?_))
          · have hcl := cnt_lt hcn
            have hcc2 : am_get T2 c = some (ckC c (nI s) (nI e) tk fq nt nc) := by rw [fr_get hf2 (by simp only [List.mem_cons, List.not_mem_nil, or_false, List.mem_range'_1]; omega)]; exact hcc1
            have hR2 := ckR_fr hR1 hf2 (by simp only [List.mem_cons, List.not_mem_nil, or_false, List.mem_range'_1]; omega)
            have hA2 := allS_fr hA1 hf2 (fun j hj => by simp only [List.mem_cons, List.not_mem_nil, or_false] at hj; omega)
            have hf2J := fr_trans hf1J (fr_mono (ks := (1 :: c :: List.range' (c + 5) 40)) hf2 (fun j hj => by simp only [List.mem_cons, List.not_mem_nil, or_false, List.mem_range'_1] at hj ⊢; omega))
            iterate 3 refine wp_step rfl rfl ?_
            refine wp_icmp rfl (fun c4 => ?_) (fun c4 => ?_)
            · replace c4 := n_le_t (a := n) (b := 10) (by omega) (by omega) c4
              iterate 2 refine wp_step rfl rfl ?_
              refine wp_putg rfl hcc2 (by decide) rfl rfl ?_
              rw [ckG_4]
              iterate 2 refine wp_step rfl rfl ?_
              have hf3 : fr [c] T2 (am_upd T2 c (ckC c (nI s) (nI e) tk fq (nI 0) nc)) := fr_up (by simp)
              have hf3J := fr_trans hf2J (fr_mono (ks := (1 :: c :: List.range' (c + 5) 40)) hf3 (fun j hj => by simp only [List.mem_cons, List.not_mem_nil, or_false, List.mem_range'_1] at hj ⊢; omega))
              refine md_loopJ hb hc3 hc9 (tk := tk) (fq := fq) (nc := nc) (s := s) (e := e) c4 n 0 [] p3 _ _ _ (by omega) rfl wf_nil (sK_fr hk2 hf3 (by simp only [List.mem_cons, List.not_mem_nil, or_false, List.mem_range'_1]; omega) (by simp only [List.mem_cons, List.not_mem_nil, or_false, List.mem_range'_1]; omega)) (am_get_self hcc2) (ckR_fr hR2 hf3 (by simp only [List.mem_cons, List.not_mem_nil, or_false, List.mem_range'_1]; omega)) (fun t x hx => by simp at hx) (allS_fr hA2 hf3 (fun j hj => by simp only [List.mem_cons, List.not_mem_nil, or_false] at hj; omega)) (fun τ p4 T4 x6 x7 e4 hf4 hk4 hcc4 hR4 hT4 hA4 => ?_) (fun k pl T4 e4 hf4 hx4 hs4 => ?_)
              · obtain ⟨hτn, hwf, hp4⟩ := rdTs_ok e4 wf_nil (by simp; omega)
                simp at hτn
                have hf4J := fr_trans hf3J hf4
                refine wp_step rfl rfl ?_
                refine wp_c0 rfl rfl (by decide) rfl (recv_ok hk4.1 rfl) rfl (q_eventEnd hk4 (fun hle => ?_) (fun T5 hlt hf5 hx5 => ?_))
                · have eM : rdM b s e = .inr τ := by unfold rdM; rw [if_neg hn1, hh]; dsimp only; rw [if_neg (by omega), hcn]; dsimp only; rw [if_neg (by omega), e4]; dsimp only; rw [if_neg (by omega)]
                  have hO : ckO T4 c τ := ⟨⟨_, _, _, _, _, by rw [hτn]; exact hcc4⟩, hR4, hT4⟩
                  have bad2 : (¬ fht τ ∨ ring τ) → wp X (d + 5) 7 192 [some (.ref c), some (.ref 1), some (.int (nI (s + w2 b (s + 8)))), some (.int (nI p2)), some (.int (nI n)), some (.int (nI n)), x6, x7] [] T4 Q := by
                    intro hbad
                    iterate 3 refine wp_step rfl rfl ?_
                    exact wp_fl rfl rfl hk4 (fun T hf hx => hthr 4 (s + w2 b (s + 8)) T (Or.inr ⟨τ, eM, hwf, hbad, rfl, rfl⟩) (fr_trans hf4J (fr_mono hf (fun j hj => by simp only [List.mem_cons, List.not_mem_nil, or_false, List.mem_range'_1] at hj ⊢; omega))) hx ⟨⟨_, _, _, _, _, _, by rw [fr_get hf (by simp only [List.mem_cons, List.not_mem_nil, or_false, List.mem_range'_1]; omega)]; exact hcc4⟩, ckR_fr hR4 hf (by simp only [List.mem_cons, List.not_mem_nil, or_false, List.mem_range'_1]; omega), allS_fr hA4 hf (fun j hj => by simp only [List.mem_cons, List.not_mem_nil, or_false] at hj; omega)⟩)
                  refine wp_step rfl rfl ?_
                  refine wp_c0 rfl rfl (by decide) rfl (recv_ok hcc4 rfl) rfl (q_fieldsHaveTypes hwf hO (by omega) (fun hg => ?_) (fun hg => ?_))
                  · refine wp_if_f rfl (by decide) ?_
                    refine wp_step rfl rfl ?_
                    refine wp_c0 rfl rfl (by decide) rfl (recv_ok hcc4 rfl) rfl (q_someHoldItself hwf hO (by omega) (fun hr => ?_) (fun hr => ?_))
                    · refine wp_if_f rfl (by decide) ?_
                      exact bad2 (Or.inr hr)
                    · refine wp_if_t rfl (by decide) ?_
                      refine wp_vret rfl rfl (hret τ T4 eM hwf hg hr hf4J ⟨_, _, _, hk4⟩ (by rw [hτn]; exact hcc4) hR4 hT4 hA4)
                  · refine wp_if_t rfl (by decide) ?_
                    exact bad2 (Or.inl hg)
                · exact hthr 5 p4 T5 (Or.inl (by unfold rdM; rw [if_neg hn1, hh]; dsimp only; rw [if_neg (by omega), hcn]; dsimp only; rw [if_neg (by omega), e4]; dsimp only; rw [if_pos hlt])) (fr_trans hf4J (fr_mono hf5 (fun j hj => by simp only [List.mem_cons, List.not_mem_nil, or_false, List.mem_range'_1] at hj ⊢; omega))) hx5 ⟨⟨_, _, _, _, _, _, by rw [fr_get hf5 (by simp only [List.mem_cons, List.not_mem_nil, or_false, List.mem_range'_1]; omega)]; exact hcc4⟩, ckR_fr hR4 hf5 (by simp only [List.mem_cons, List.not_mem_nil, or_false, List.mem_range'_1]; omega), allS_fr hA4 hf5 (fun j hj => by simp only [List.mem_cons, List.not_mem_nil, or_false] at hj; omega)⟩
              · exact hthr k pl T4 (Or.inl (by unfold rdM; rw [if_neg hn1, hh]; dsimp only; rw [if_neg (by omega), hcn]; dsimp only; rw [if_neg (by omega), e4])) (fr_trans hf3J hf4) hx4 hs4
            · replace c4 := n_le_f (a := n) (b := 10) (by omega) (by omega) c4
              iterate 3 refine wp_step rfl rfl ?_
              refine wp_fl rfl rfl hk2 (fun T hf hx => hthr 4 p2 T (Or.inl ?_) (fr_trans hf2J (fr_mono hf (fun j hj => by simp only [List.mem_cons, List.not_mem_nil, or_false, List.mem_range'_1] at hj ⊢; omega))) hx ⟨⟨_, _, _, _, _, _, by rw [fr_get hf (by simp only [List.mem_cons, List.not_mem_nil, or_false, List.mem_range'_1]; omega)]; exact hcc2⟩, ckR_fr hR2 hf (by simp only [List.mem_cons, List.not_mem_nil, or_false, List.mem_range'_1]; omega), allS_fr hA2 hf (fun j hj => by simp only [List.mem_cons, List.not_mem_nil, or_false] at hj; omega)⟩)
              unfold rdM; rw [if_neg hn1, hh]; dsimp only; rw [if_neg (by omega), hcn]; dsimp only; rw [if_pos c4]
          · exact hthr _ _ T2 (Or.inl (by unfold rdM; rw [if_neg hn1, hh]; dsimp only; rw [if_neg (by omega), hcn])) (fr_trans hf1J (fr_mono hf2 (fun j hj => by simp only [List.mem_cons, List.not_mem_nil, or_false, List.mem_range'_1] at hj ⊢; omega))) hx2 ⟨⟨_, _, _, _, _, _, by rw [fr_get hf2 (by simp only [List.mem_cons, List.not_mem_nil, or_false, List.mem_range'_1]; omega)]; exact hcc1⟩, ckR_fr hR1 hf2 (by simp only [List.mem_cons, List.not_mem_nil, or_false, List.mem_range'_1]; omega), allS_fr hA1 hf2 (fun j hj => by simp only [List.mem_cons, List.not_mem_nil, or_false] at hj; omega)⟩
        · replace c3 := z_eq_f (a := id) (by omega) c3
          iterate 3 refine wp_step rfl rfl ?_
          refine wp_getg rfl hk1.1 (by decide) rfl ?_
          refine wp_fl rfl rfl hk1 (fun T hf hx => hthr 3 p1 T (Or.inl ?_) (fr_trans hf1J (fr_mono hf (fun j hj => by simp only [List.mem_cons, List.not_mem_nil, or_false, List.mem_range'_1] at hj ⊢; omega))) hx ⟨⟨_, _, _, _, _, _, by rw [fr_get hf (by simp only [List.mem_cons, List.not_mem_nil, or_false, List.mem_range'_1]; omega)]; exact hcc1⟩, ckR_fr hR1 hf (by simp only [List.mem_cons, List.not_mem_nil, or_false, List.mem_range'_1]; omega), allS_fr hA1 hf (fun j hj => by simp only [List.mem_cons, List.not_mem_nil, or_false] at hj; omega)⟩)
          unfold rdM; rw [if_neg hn1, hh]; dsimp only; rw [if_pos c3]
      · exact hthr k pl T1 (Or.inl (by unfold rdM; rw [if_neg hn1, hh])) (fr_mono hf1 (fun j hj => by simp only [List.mem_cons, List.not_mem_nil, or_false, List.mem_range'_1] at hj ⊢; omega)) hx1 ⟨⟨_, _, _, _, _, _, by rw [fr_get hf1 (by simp only [List.mem_cons, List.not_mem_nil, or_false, List.mem_range'_1]; omega)]; exact hcc⟩, ckR_fr hR hf1 (by simp only [List.mem_cons, List.not_mem_nil, or_false, List.mem_range'_1]; omega), allS_fr hA hf1 (fun j hj => by simp only [List.mem_cons, List.not_mem_nil, or_false] at hj; omega)⟩
    · replace c2 := n_lt_f (a := s + w2 b (s + 8)) (b := e) (by omega) (by omega) c2
      exact bad (Or.inr c2)
end METAJ
