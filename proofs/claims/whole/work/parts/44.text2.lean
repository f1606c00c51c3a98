/-! Values.readText, in full -/
section TEXT2
variable {X : Nat × (Nat → Int32)} {d : Nat} {Q : am_R → Prop} {b : Nat → Nat} {tot p lim idp v n l nd : Nat} {A : jVA} {S : am_S}
theorem agr_put {A : jVA} {nd l : Nat} {k f : Int32} {x : Int64} : agr A (putA A nd k x f) nd l := by
  refine ⟨fun i hi => ⟨?_, ?_, ?_, rfl⟩, fun i _ => rfl⟩
  · exact pk_un (by omega)
  · exact pk_uLn (by omega)
  · exact pk_un (by omega)
theorem agr_lt {A : jVA} {n l : Nat} {ls : List Nat} : agr A (ltA A l ls) n l := ⟨fun i _ => ⟨rfl, rfl, rfl, rfl⟩, fun i hi => lput_lt hi⟩
theorem tx_end {ls : List Nat} {m0 en i : Nat} {fm : Nat} (hv : vS S v n (l + ls.length) (ltA A l ls)) (hl : l + ls.length < 2 ^ 31) (hnd : 1 ≤ nd ∧ nd < 1201) (hq : ∀ T, fr [v + 1, v + 2, v + 3] S T → vS T v n (l + ls.length) (putA (ltA A l ls) nd 10 (lN ls.length) (nI l)) → DX (putA (ltA A l ls) nd 10 (lN ls.length) (nI l)) nd l (l + ls.length) (.inr (.inr ls)) → Q (.inl none, T)) :
    wp X (d + 3) 68 192 [some (.ref v), some (.ref 1), some (.int (nI nd)), some (.int (nI p)), some (.int (nI fm)), some (.int (nI (p + 1))), some (.int (nI l)), some (.int (nI (m0))), some (.int (nI (en))), some (.int (nI (i)))] [] S Q := by
  iterate 4 refine wp_step rfl rfl ?_
  refine wp_getg rfl hv.1 (by decide) rfl ?_
  iterate 4 refine wp_step rfl rfl ?_
  rw [pk_sub (by omega), show l + ls.length - l = ls.length by omega, nI_l (by omega)]
  refine wp_c0 rfl rfl (by decide) rfl (recv_ok hv.1 rfl) rfl (q_put hv hnd (fun T2 hf2 hv2 => ?_))
  refine wp_vret rfl rfl (hq T2 hf2 hv2 ?_)
  exact ⟨pk_us, pk_uLs, pk_us, rfl, fun i x hx => lput_at hx⟩
set_option maxHeartbeats 1000000 in
theorem q_readText (hb : ∀ j, b j < 256) (hv3 : 3 ≤ v) (h : sK S b tot p lim idp) (hv : vS S v n l A) (hnd : 1 ≤ nd ∧ nd < 1201) (hl : l ≤ p)
    (hret : ∀ tv p' l' A' T, rdX b lim p = .inr (tv, p') → fr [1, v, v + 1, v + 2, v + 3, v + 5] S T → sK T b tot p' lim idp → vS T v n l' A' → agr A A' nd l → DX A' nd l l' tv → Q (.inl none, T))
    (hthr : ∀ k pl T, rdX b lim p = .inl (k, pl) → fr [1, v, v + 1, v + 2, v + 3, v + 5] S T → sX T tot k pl → vSx T v → Q (.inr IAE, am_thrown T)) : ev X (d + 4) 68 [.ref v, .ref 1, .int (nI nd)] S Q := by
  refine ev_wp (L0 := [some (.ref v), some (.ref 1), some (.int (nI nd)), none, none, none, none, none, none, none]) (Nat.le_of_ble_eq_true rfl) rfl ?_
  have hk9 := h.2.2
  have hbp := hb p
  refine wp_step rfl rfl ?_
  refine wp_getg rfl h.1 (by decide) rfl ?_
  iterate 2 refine wp_step rfl rfl ?_
  refine wp_c0 rfl rfl (by decide) rfl (recv_ok h.1 rfl) rfl (q_oneByte h (fun T hlt hf hk => ?_) (fun T hlt hf hx => ?_))
  · have hv1 := vS_fr hv hf (fun j hj => by simp only [List.mem_cons, List.not_mem_nil, or_false] at hj; omega)
    have hfJ := fr_mono (ks := [1, v, v + 1, v + 2, v + 3, v + 5]) hf (fun j hj => by simp only [List.mem_cons, List.not_mem_nil, or_false, List.mem_range'_1] at hj ⊢; omega)
    have hn1 : ¬ lim ≤ p := by omega
    iterate 2 refine wp_step rfl rfl ?_
    refine wp_getg rfl hk.1 (by decide) rfl ?_
    iterate 2 refine wp_step rfl rfl ?_
    refine wp_getg rfl hv1.1 (by decide) rfl ?_
    refine wp_step rfl rfl ?_
    show wp X _ 68 23 [some (.ref v), some (.ref 1), some (.int (nI nd)), some (.int (nI p)), some (.int (nI (b p))), some (.int (nI (p + 1))), some (.int (nI l)), none, none, none] [] T Q
    refine wp_step rfl rfl ?_
    refine wp_if rfl (fun c0 => ?_) (fun c0 => ?_)
    · replace c0 := z_ne_t (a := b p) (by omega) c0
      iterate 2 refine wp_step rfl rfl ?_
      refine wp_icmp rfl (fun c1 => ?_) (fun c1 => ?_)
      · replace c1 := n_ne_t (a := b p) (b := 2) (by omega) (by omega) c1
        iterate 2 refine wp_step rfl rfl ?_
        refine wp_icmp rfl (fun c2 => ?_) (fun c2 => ?_)
        · replace c2 := n_le_t (a := b p) (b := 5) (by omega) (by omega) c2
          iterate 2 refine wp_step rfl rfl ?_
          refine wp_icmp rfl (fun c3 => ?_) (fun c3 => ?_)
          · replace c3 := n_ne_t (a := b p) (b := 1) (by omega) (by omega) c3
            refine wp_step rfl rfl ?_
            refine wp_c0 rfl rfl (by decide) rfl (recv_ok hk.1 rfl) rfl (q_count hk (fun m p1 T2 hc hf2 hk2 => ?_) (fun T2 hc hf2 hx2 => ?_))
            · have hcl := cnt_lt hc
              have hv2 := vS_fr hv1 hf2 (fun j hj => by simp only [List.mem_cons, List.not_mem_nil, or_false] at hj; omega)
              have hf2J := fr_trans hfJ (fr_mono (ks := [1, v, v + 1, v + 2, v + 3, v + 5]) hf2 (fun j hj => by simp only [List.mem_cons, List.not_mem_nil, or_false, List.mem_range'_1] at hj ⊢; omega))
              refine wp_step rfl rfl ?_
              show wp X _ 68 86 [some (.ref v), some (.ref 1), some (.int (nI nd)), some (.int (nI p)), some (.int (nI (b p))), some (.int (nI (p + 1))), some (.int (nI l)), some (.int (nI (m))), none, none] [] T2 Q
              iterate 2 refine wp_step rfl rfl ?_
              refine wp_icmp rfl (fun c4 => ?_) (fun c4 => ?_)
              · replace c4 := n_eq_t (a := b p) (b := 4) (by omega) (by omega) c4
                refine wp_step rfl rfl ?_
                refine wp_getg rfl hk2.1 (by decide) rfl ?_
                iterate 2 refine wp_step rfl rfl ?_
                rw [nI_add]
                iterate 3 refine wp_step rfl rfl ?_
                show wp X _ 68 125 [some (.ref v), some (.ref 1), some (.int (nI nd)), some (.int (nI p)), some (.int (nI (b p))), some (.int (nI (p + 1))), some (.int (nI l)), some (.int (nI (m))), some (.int (nI (p1 + m))), some (.int (nI (0)))] [] T2 Q
                rw [c4]
                refine tx_loop4 hb hv3 hcl.1 m 0 p1 l A T2 (by omega) hk2 hv2 (by omega) (fun ls q2 T3 e3 hf3 hk3 hv3b => ?_) (fun k pl T3 e3 hf3 hx3 hs3 => ?_)
                · have hnl := nls_len e3
                  have hk39 := hk3.2.2
                  exact tx_end hv3b (by omega) hnd (fun T9 hf9 hv9 hd9 => hret (.inr (.inr ls)) q2 _ _ T9 (by unfold rdX; rw [if_neg hn1, if_neg c0, if_neg c1, if_neg (by omega), if_neg c3, hc]; dsimp only; rw [if_pos c4, e3]) (fr_trans hf2J (fr_trans (fr_mono hf3 (fun j hj => by simp only [List.mem_cons, List.not_mem_nil, or_false, List.mem_range'_1] at hj ⊢; omega)) (fr_mono hf9 (fun j hj => by simp only [List.mem_cons, List.not_mem_nil, or_false, List.mem_range'_1] at hj ⊢; omega)))) (sK_fr hk3 hf9 (by simp only [List.mem_cons, List.not_mem_nil, or_false, List.mem_range'_1]; omega) (by simp only [List.mem_cons, List.not_mem_nil, or_false, List.mem_range'_1]; omega)) hv9 (agr_trans agr_lt agr_put (Nat.le_refl _) (Nat.le_refl _)) hd9)
                · exact hthr k pl T3 (by unfold rdX; rw [if_neg hn1, if_neg c0, if_neg c1, if_neg (by omega), if_neg c3, hc]; dsimp only; rw [if_pos c4, e3]) (fr_trans hf2J (fr_mono hf3 (fun j hj => by simp only [List.mem_cons, List.not_mem_nil, or_false, List.mem_range'_1] at hj ⊢; omega))) hx3 hs3
              · replace c4 := n_eq_f (a := b p) (b := 4) (by omega) (by omega) c4
                iterate 2 refine wp_step rfl rfl ?_
                refine wp_getg rfl hk2.1 (by decide) rfl ?_
                refine wp_step rfl rfl ?_
                refine wp_getg rfl hk2.1 (by decide) rfl ?_
                refine wp_step rfl rfl ?_
                rw [pk_sub (by omega)]
                refine wp_icmp rfl (fun c5 => ?_) (fun c5 => ?_)
                · replace c5 := n_le_t (a := m) (b := lim - p1) (by omega) (by omega) c5
                  refine wp_step rfl rfl ?_
                  refine wp_getg rfl hk2.1 (by decide) rfl ?_
                  iterate 2 refine wp_step rfl rfl ?_
                  rw [nI_add]
                  iterate 3 refine wp_step rfl rfl ?_
                  show wp X _ 68 125 [some (.ref v), some (.ref 1), some (.int (nI nd)), some (.int (nI p)), some (.int (nI (b p))), some (.int (nI (p + 1))), some (.int (nI l)), some (.int (nI (m))), some (.int (nI (p1 + m))), some (.int (nI (0)))] [] T2 Q
                  by_cases c6 : b p = 3
                  · rw [c6]
                    refine tx_loop3 hb hv3 hcl.1 (by omega) m 0 p1 l A T2 (by omega) hk2 hv2 (by omega) (by omega) (by omega) (fun ls T3 e3 hf3 hk3 hv3b i hi => ?_) (fun k pl T3 e3 hf3 hx3 hs3 => ?_)
                    · have hnl := us_len e3 (by omega)
                      have hk39 := hk3.2.2
                      exact tx_end hv3b (by omega) hnd (fun T9 hf9 hv9 hd9 => hret (.inr (.inr ls)) (p1 + m) _ _ T9 (by unfold rdX; rw [if_neg hn1, if_neg c0, if_neg c1, if_neg (by omega), if_neg c3, hc]; dsimp only; rw [if_neg c4, if_neg (by omega), if_pos c6, e3]) (fr_trans hf2J (fr_trans (fr_mono hf3 (fun j hj => by simp only [List.mem_cons, List.not_mem_nil, or_false, List.mem_range'_1] at hj ⊢; omega)) (fr_mono hf9 (fun j hj => by simp only [List.mem_cons, List.not_mem_nil, or_false, List.mem_range'_1] at hj ⊢; omega)))) (sK_fr hk3 hf9 (by simp only [List.mem_cons, List.not_mem_nil, or_false, List.mem_range'_1]; omega) (by simp only [List.mem_cons, List.not_mem_nil, or_false, List.mem_range'_1]; omega)) hv9 (agr_trans agr_lt agr_put (Nat.le_refl _) (Nat.le_refl _)) hd9)
                    · exact hthr k pl T3 (by unfold rdX; rw [if_neg hn1, if_neg c0, if_neg c1, if_neg (by omega), if_neg c3, hc]; dsimp only; rw [if_neg c4, if_neg (by omega), if_pos c6, e3]) (fr_trans hf2J (fr_mono hf3 (fun j hj => by simp only [List.mem_cons, List.not_mem_nil, or_false, List.mem_range'_1] at hj ⊢; omega))) hx3 hs3
                  · have c7 : b p = 5 := by omega
                    rw [c7]
                    refine tx_loop5 hb hv3 hcl.1 m 0 p1 l A T2 (by omega) hk2 hv2 (by omega) (by omega) (fun T3 hf3 hk3 hv3b => ?_)
                    refine tx_end (ls := bls b m p1) (by rw [bls_len]; exact hv3b) (by rw [bls_len]; omega) hnd (fun T9 hf9 hv9 hd9 => hret (.inr (.inr (bls b m p1))) (p1 + m) _ _ T9 (by unfold rdX; rw [if_neg hn1, if_neg c0, if_neg c1, if_neg (by omega), if_neg c3, hc]; dsimp only; rw [if_neg c4, if_neg (by omega), if_neg c6]) (fr_trans hf2J (fr_trans (fr_mono hf3 (fun j hj => by simp only [List.mem_cons, List.not_mem_nil, or_false, List.mem_range'_1] at hj ⊢; omega)) (fr_mono hf9 (fun j hj => by simp only [List.mem_cons, List.not_mem_nil, or_false, List.mem_range'_1] at hj ⊢; omega)))) (sK_fr hk3 hf9 (by simp only [List.mem_cons, List.not_mem_nil, or_false, List.mem_range'_1]; omega) (by simp only [List.mem_cons, List.not_mem_nil, or_false, List.mem_range'_1]; omega)) hv9 (agr_trans agr_lt agr_put (Nat.le_refl _) (Nat.le_refl _)) hd9)
                · replace c5 := n_le_f (a := m) (b := lim - p1) (by omega) (by omega) c5
                  iterate 3 refine wp_step rfl rfl ?_
                  exact wp_fl rfl rfl hk2 (fun T3 hf3 hx3 => hthr 2 (p + 1) T3 (by unfold rdX; rw [if_neg hn1, if_neg c0, if_neg c1, if_neg (by omega), if_neg c3, hc]; dsimp only; rw [if_neg c4, if_pos c5]) (fr_trans hf2J (fr_mono hf3 (fun j hj => by simp only [List.mem_cons, List.not_mem_nil, or_false, List.mem_range'_1] at hj ⊢; omega))) hx3 ⟨_, _, _, vS_fr hv2 hf3 (fun j hj => by simp only [List.mem_cons, List.not_mem_nil, or_false] at hj; omega)⟩)
            · exact hthr 2 (p + 1) T2 (by unfold rdX; rw [if_neg hn1, if_neg c0, if_neg c1, if_neg (by omega), if_neg c3, hc]) (fr_trans hfJ (fr_mono hf2 (fun j hj => by simp only [List.mem_cons, List.not_mem_nil, or_false, List.mem_range'_1] at hj ⊢; omega))) hx2 ⟨_, _, _, vS_fr hv1 hf2 (fun j hj => by simp only [List.mem_cons, List.not_mem_nil, or_false] at hj; omega)⟩
          · replace c3 := n_ne_f (a := b p) (b := 1) (by omega) (by omega) c3
            iterate 3 refine wp_step rfl rfl ?_
            show wp X _ 68 86 [some (.ref v), some (.ref 1), some (.int (nI nd)), some (.int (nI p)), some (.int (nI (b p))), some (.int (nI (p + 1))), some (.int (nI l)), some (.int (nI 0)), none, none] [] T Q
            iterate 2 refine wp_step rfl rfl ?_
            refine wp_icmp rfl (fun c4 => ?_) (fun c4 => ?_)
            · replace c4 := n_eq_t (a := b p) (b := 4) (by omega) (by omega) c4
              omega
            · replace c4 := n_eq_f (a := b p) (b := 4) (by omega) (by omega) c4
              iterate 2 refine wp_step rfl rfl ?_
              refine wp_getg rfl hk.1 (by decide) rfl ?_
              refine wp_step rfl rfl ?_
              refine wp_getg rfl hk.1 (by decide) rfl ?_
              refine wp_step rfl rfl ?_
              rw [pk_sub (by omega)]
              refine wp_icmp rfl (fun c5 => ?_) (fun c5 => ?_)
              · replace c5 := n_le_t (a := 0) (b := lim - (p + 1)) (by omega) (by omega) c5
                refine wp_step rfl rfl ?_
                refine wp_getg rfl hk.1 (by decide) rfl ?_
                iterate 2 refine wp_step rfl rfl ?_
                rw [nI_add]
                iterate 3 refine wp_step rfl rfl ?_
                show wp X _ 68 125 [some (.ref v), some (.ref 1), some (.int (nI nd)), some (.int (nI p)), some (.int (nI (b p))), some (.int (nI (p + 1))), some (.int (nI l)), some (.int (nI 0)), some (.int (nI (p + 1 + 0))), some (.int (nI (0)))] [] T Q
                iterate 2 refine wp_step rfl rfl ?_
                refine wp_icmp rfl (fun c6 => ?_) (fun c6 => ?_)
                · replace c6 := n_ge_t (a := 0) (b := 0) (by omega) (by omega) c6
                  refine tx_end (ls := []) (l := l) (A := A) (by rw [List.length_nil]; exact hv1) (by simp; omega) hnd (fun T2 hf2 hv2 hd2 => ?_)
                  exact hret (.inr (.inr [])) (p + 1) l _ T2 (by unfold rdX; rw [if_neg hn1, if_neg c0, if_neg c1, if_neg (by omega), if_pos c3]) (fr_trans hfJ (fr_mono hf2 (fun j hj => by simp only [List.mem_cons, List.not_mem_nil, or_false, List.mem_range'_1] at hj ⊢; omega))) (sK_fr hk hf2 (by simp only [List.mem_cons, List.not_mem_nil, or_false, List.mem_range'_1]; omega) (by simp only [List.mem_cons, List.not_mem_nil, or_false, List.mem_range'_1]; omega)) hv2 agr_put hd2
                · replace c6 := n_ge_f (a := 0) (b := 0) (by omega) (by omega) c6
                  omega
              · replace c5 := n_le_f (a := 0) (b := lim - (p + 1)) (by omega) (by omega) c5
                omega
        · replace c2 := n_le_f (a := b p) (b := 5) (by omega) (by omega) c2
          iterate 3 refine wp_step rfl rfl ?_
          exact wp_fl rfl rfl hk (fun T2 hf2 hx2 => hthr 6 p T2 (by unfold rdX; rw [if_neg hn1, if_neg c0, if_neg c1, if_pos c2]) (fr_trans hfJ (fr_mono hf2 (fun j hj => by simp only [List.mem_cons, List.not_mem_nil, or_false, List.mem_range'_1] at hj ⊢; omega))) hx2 ⟨_, _, _, vS_fr hv1 hf2 (fun j hj => by simp only [List.mem_cons, List.not_mem_nil, or_false] at hj; omega)⟩)
      · replace c1 := n_ne_f (a := b p) (b := 2) (by omega) (by omega) c1
        iterate 4 refine wp_step rfl rfl ?_
        refine wp_c0 rfl rfl (by decide) rfl (recv_ok hk.1 rfl) rfl (q_number hk (fun z p1 T2 hz hf2 hk2 => ?_) (fun T2 hz hf2 hx2 => ?_))
        · have hv2 := vS_fr hv1 hf2 (fun j hj => by simp only [List.mem_cons, List.not_mem_nil, or_false] at hj; omega)
          refine wp_step rfl rfl ?_
          refine wp_c0 rfl rfl (by decide) rfl (recv_ok hv2.1 rfl) rfl (q_put hv2 hnd (fun T3 hf3 hv3 => ?_))
          refine wp_vret rfl rfl (hret (.inr (.inl z)) p1 l _ T3 (by unfold rdX; rw [if_neg hn1, if_neg c0, if_pos c1, hz]) (fr_trans hfJ (fr_trans (fr_mono hf2 (fun j hj => by simp only [List.mem_cons, List.not_mem_nil, or_false, List.mem_range'_1] at hj ⊢; omega)) (fr_mono hf3 (fun j hj => by simp only [List.mem_cons, List.not_mem_nil, or_false, List.mem_range'_1] at hj ⊢; omega)))) (sK_fr hk2 hf3 (by simp only [List.mem_cons, List.not_mem_nil, or_false, List.mem_range'_1]; omega) (by simp only [List.mem_cons, List.not_mem_nil, or_false, List.mem_range'_1]; omega)) hv3 agr_put ⟨pk_us, pk_uLs, pk_us, rfl⟩)
        · exact hthr 2 (p + 1) T2 (by unfold rdX; rw [if_neg hn1, if_neg c0, if_pos c1, hz]) (fr_trans hfJ (fr_mono hf2 (fun j hj => by simp only [List.mem_cons, List.not_mem_nil, or_false, List.mem_range'_1] at hj ⊢; omega))) hx2 ⟨_, _, _, vS_fr hv1 hf2 (fun j hj => by simp only [List.mem_cons, List.not_mem_nil, or_false] at hj; omega)⟩
    · replace c0 := z_ne_f (a := b p) (by omega) c0
      iterate 5 refine wp_step rfl rfl ?_
      refine wp_c0 rfl rfl (by decide) rfl (recv_ok hv1.1 rfl) rfl (q_put hv1 hnd (fun T2 hf2 hv2 => ?_))
      refine wp_vret rfl rfl (hret (.inl ()) (p + 1) l _ T2 (by unfold rdX; rw [if_neg hn1, if_pos c0]) (fr_trans hfJ (fr_mono hf2 (fun j hj => by simp only [List.mem_cons, List.not_mem_nil, or_false, List.mem_range'_1] at hj ⊢; omega))) (sK_fr hk hf2 (by simp only [List.mem_cons, List.not_mem_nil, or_false, List.mem_range'_1]; omega) (by simp only [List.mem_cons, List.not_mem_nil, or_false, List.mem_range'_1]; omega)) hv2 agr_put ⟨pk_us, pk_uLs, rfl⟩)
  · exact hthr 2 p T (by unfold rdX; rw [if_pos hlt]) (fr_mono hf (fun j hj => by simp only [List.mem_cons, List.not_mem_nil, or_false, List.mem_range'_1] at hj ⊢; omega)) hx ⟨_, _, _, vS_fr hv hf (fun j hj => by simp only [List.mem_cons, List.not_mem_nil, or_false] at hj; omega)⟩
end TEXT2
