/-! THE MODEL: the chain of checkpoints -/
def chW (b : Nat → Nat) (s e f : Nat) (cps : List jCp) : Prop := hok b e f (s + 20) ∧ (∀ (i : Nat) (y : jCp), cps[i]? = some y → s + 20 ≤ y.1 ∧ cpW b e y) ∧ (∀ (i j : Nat) (x y : jCp), i < j → cps[i]? = some x → cps[j]? = some y → x.1 < y.1) ∧ ∀ wt, isC b e wt f (s + 20) = true ↔ ∃ y, y ∈ cps ∧ y.1 = wt
theorem chW_of {τ : jTT} {b : Nat → Nat} {ci s e n : Nat} {evs : List jEv} {st' : jSt} (h : rdEs τ b ci e 960 (s + 20) (n, [], [], evs) = .inr st') (he : e ≤ 960) : chW b s e 960 st'.2.1 := by
  obtain ⟨h1, new, h2, h3, h4, h5⟩ := rdEs_cps 960 (s + 20) _ st' h (by omega)
  have h2' : st'.2.1 = new := by rw [h2]; rfl
  rw [h2']
  refine ⟨h1, fun i y hy => h3 y (List.mem_of_getElem? hy), fun i j x y hij hx hy => ?_, h5⟩
  obtain ⟨hi, ei⟩ := List.getElem?_eq_some_iff.mp hx
  obtain ⟨hj, ej⟩ := List.getElem?_eq_some_iff.mp hy
  rw [← ei, ← ej]
  exact List.pairwise_iff_getElem.mp h4 i j hi hj hij
theorem cpx_none {b : Nat → Nat} {s e f : Nat} {cps : List jCp} {wt : Nat} (h : chW b s e f cps) : cpx cps wt = none ↔ isC b e wt f (s + 20) = false := by
  constructor
  · intro hn
    cases ec : isC b e wt f (s + 20) with
    | false => rfl
    | true =>
      obtain ⟨y, hy, hy1⟩ := (h.2.2.2 wt).mp ec
      obtain ⟨k, hk⟩ := List.getElem?_of_mem hy
      have hl := (List.getElem?_eq_some_iff.mp hk).1
      have := fsti_none hn k (Nat.zero_le _) (by omega)
      have := of_decide_eq_false this
      rw [hk] at this
      exact absurd (by simp [hy1]) this
  · intro hf
    cases ec : cpx cps wt with
    | none => rfl
    | some i =>
      obtain ⟨y, hy, hy1, _⟩ := cpx_some ec
      have := (h.2.2.2 wt).mpr ⟨y, List.mem_of_getElem? hy, hy1⟩
      rw [hf] at this
      cases this
section MCHAIN
variable {X : Nat × (Nat → Int32)} {d : Nat} {Q : am_R → Prop} {st : Int64} {b : Nat → Nat} {w : Nat}
theorem ch_wrong {S : am_S} {I : Nat → Int32} {li : Int64} {s e dp : Nat} {z3 z4 z7 : Int32} (h : am_get S 408 = some (moC I st li)) (h25 : I 25 = 0) (hq : ∀ T J, fr [408] S T → gf [25, 26] I J → mX T J st li 7 dp → Q (.inl none, T)) : wp X (d + 1) 124 116 [some (.ref 408), some (.int (nI s)), some (.int (nI e)), some (.int z3), some (.int z4), some (.int 1), some (.int (nI dp)), some (.int z7)] [] S Q := by
  iterate 3 refine wp_step rfl rfl ?_
  refine wp_c0 rfl rfl (by decide) rfl (recv_ok h rfl) rfl (q_mwrong h h25 (fun T2 hf2 h2 => ?_))
  iterate 5 refine wp_step rfl rfl ?_
  refine wp_step rfl rfl ?_
  refine wp_if_f rfl rfl ?_
  refine wp_step rfl rfl ?_
  refine wp_getg (v := (.int 7)) rfl h2 (by decide) (congrArg Value.int pk_us) ?_
  refine wp_if_t rfl rfl ?_
  refine wp_vret rfl rfl (hq T2 _ hf2 (gf_up (gf_up (gf_refl _ _) (by simp)) (by simp)) ⟨h2, pk_us, by decide, (pk_un (by decide)).trans pk_us⟩)
set_option maxHeartbeats 1000000 in
theorem ch_loop {s e f0 : Nat} {cps : List jCp} {ks : List jK} {z3 : Int32} (hb : ∀ j, b j < 256) (hw : w ≤ 1) (he : e ≤ 960) (hW : chW b s e f0 cps) : ∀ (f i : Nat) (y : jCp) (S : am_S) (I : Nat → Int32) (li : Int64) (x6 x7 : Option Value), i < f → cps[i]? = some y → am_get S 408 = some (moC I st li) → mBy S b w → I 19 = nI w → I 25 = 0 →
    (∀ L T J li2, chn cps ks f i = .inr L → fr [408] S T → gf [21, 22, 57] I J → am_get T 408 = some (moC J st li2) → Q (.inl none, T)) →
    (∀ k pl T J li2, chn cps ks f i = .inl (k, pl) → fr [408] S T → gf [21, 22, 25, 26, 57] I J → mX T J st li2 k pl → Q (.inl none, T)) → wp X (d + 5) 124 44 [some (.ref 408), some (.int (nI s)), some (.int (nI e)), some (.int z3), some (.int (nI y.1)), some (.int 1), x6, x7] [] S Q := by
  intro f
  induction f with
  | zero => intro i y S I li x6 x7 hi; omega
  | succ f ih =>
    intro i y S I li x6 x7 hi hy h hB h19 h25 hret hbad
    obtain ⟨hys, hye, len, p1, p3, eh, hc⟩ := hW.2.1 i y hy
    have hho := hd_ok eh
    have hcl := cnt_lt hc
    refine wp_step rfl rfl ?_
    refine wp_if_f rfl rfl ?_
    refine wp_step rfl rfl ?_
    refine wp_getg (v := (.int 0)) rfl h (by decide) (congrArg Value.int h25) ?_
    refine wp_if_f rfl rfl ?_
    iterate 3 refine wp_step rfl rfl ?_
    refine wp_c0 rfl rfl (by decide) rfl (recv_ok h rfl) rfl (q_mbegins hb h hB h19 h25 hw (by omega) he (fun len2 id2 p12 p22 T J e1 hf1 hg1 hj1 h1 => ?_) (fun k pl T J li2 e1 hf1 hg1 h1 hq1 => ?_))
    · rw [eh] at e1; cases e1
      iterate 2 refine wp_step rfl rfl ?_
      refine wp_getg (v := (.int (nI y.2.2.1))) rfl h1.1 (by decide) (congrArg Value.int h1.2.2.2.1) ?_
      iterate 2 refine wp_step rfl rfl ?_
      refine wp_c0 rfl rfl (by decide) rfl (recv_ok h1.1 rfl) rfl (q_msmall hb h1 (fun n2 q2 T2 J2 e2 hf2 hg2 h2 => ?_) (fun T2 J2 e2 hf2 hg2 h2 hq2 => ?_))
      · rw [hc] at e2; cases e2
        have hf12 := fr_trans hf1 hf2
        have hg12 : gf [21, 22, 57] I J2 := gf_trans hg1 (gf_mono hg2 (fun j hj => by simp only [List.mem_cons, List.not_mem_nil, or_false] at hj ⊢; omega))
        iterate 2 refine wp_step rfl rfl ?_
        refine wp_if rfl (fun c0 => ?_) (fun c0 => ?_)
        · replace c0 := z_le_t (a := y.2.1) (by omega) c0
          iterate 2 refine wp_step rfl rfl ?_
          refine wp_step rfl rfl ?_
          refine wp_if_t rfl rfl ?_
          iterate 5 refine wp_step rfl rfl ?_
          refine wp_step rfl rfl ?_
          refine wp_if_t rfl rfl ?_
          refine wp_vret rfl rfl (hret _ T2 J2 _ (by rw [chn, hy]; dsimp only; rw [if_pos c0]) hf12 hg12 h2.1)
        · replace c0 := z_le_f (a := y.2.1) (by omega) c0
          iterate 3 refine wp_step rfl rfl ?_
          refine wp_step rfl rfl ?_
          refine wp_if_f rfl rfl ?_
          iterate 4 refine wp_step rfl rfl ?_
          rw [pk_sub (by omega)]
          refine wp_icmp rfl (fun c1 => ?_) (fun c1 => ?_)
          · replace c1 := n_gt_t (a := y.2.1) (b := y.1 - s) (by omega) (by omega) c1
            have hd0 : ¬ y.2.1 = 0 := by omega
            have hno : ¬ y.1 < y.2.1 → cpx cps (y.1 - y.2.1) = none := by
              intro h9
              cases ec : cpx cps (y.1 - y.2.1) with
              | none => rfl
              | some j =>
                obtain ⟨y', k1, k2, _⟩ := cpx_some ec
                have := (hW.2.1 j y' k1).1
                omega
            have hch : chn cps ks (f + 1) i = .inl (7, y.2.2.1) := by
              rw [chn, hy]
              dsimp only
              rw [if_neg hd0]
              by_cases h9 : y.1 < y.2.1
              · rw [if_pos h9]
              · rw [if_neg h9, hno h9]
            exact ch_wrong h2.1 h2.2.2.2.2.2.1 (fun T3 J3 hf3 hg3 h3 => hbad 7 y.2.2.1 T3 J3 _ (by exact hch) (fr_trans hf12 hf3) (gf_trans (gf_mono hg12 (fun j hj => by simp only [List.mem_cons, List.not_mem_nil, or_false] at hj ⊢; omega)) (gf_mono hg3 (fun j hj => by simp only [List.mem_cons, List.not_mem_nil, or_false] at hj ⊢; omega))) h3)
          · replace c1 := n_gt_f (a := y.2.1) (b := y.1 - s) (by omega) (by omega) c1
            have hd0 : ¬ y.2.1 = 0 := by omega
            have hd1 : ¬ y.1 < y.2.1 := by omega
            iterate 6 refine wp_step rfl rfl ?_
            rw [pk_sub (by omega)]
            refine wp_c0 rfl rfl (by decide) rfl (recv_ok h2.1 rfl) rfl (q_misck hb hw he (by omega) (by omega) hW.1 h2.1 h2.2.1 h2.2.2.1 h2.2.2.2.2.2.1 (fun T3 J3 li3 hf3 hg3 h3 => ?_))
            have hf13 := fr_trans hf12 hf3
            have hg13 := gf_trans hg12 hg3
            have h25' : J3 25 = 0 := (hg13 25 (by decide)).trans h25
            cases ec : isC b e (y.1 - y.2.1) f0 (s + 20) with
            | false =>
              refine wp_if_f rfl rfl ?_
              have hno := (cpx_none hW).mpr ec
              exact ch_wrong h3 h25' (fun T4 J4 hf4 hg4 h4 => hbad 7 y.2.2.1 T4 J4 _ (by rw [chn, hy]; dsimp only; rw [if_neg hd0];  rw [if_neg hd1, hno]) (fr_trans hf13 hf4) (gf_trans (gf_mono hg13 (fun j hj => by simp only [List.mem_cons, List.not_mem_nil, or_false] at hj ⊢; omega)) (gf_mono hg4 (fun j hj => by simp only [List.mem_cons, List.not_mem_nil, or_false] at hj ⊢; omega))) h4)
            | true =>
              refine wp_if_t rfl rfl ?_
              iterate 3 refine wp_step rfl rfl ?_
              rw [pk_sub (by omega)]
              iterate 2 refine wp_step rfl rfl ?_
              cases ex : cpx cps (y.1 - y.2.1) with
              | none => rw [(cpx_none hW).mp ex] at ec; cases ec
              | some j =>
                obtain ⟨y', k1, k2, k3⟩ := cpx_some ex
                have hji : j < i := by
                  rcases Nat.lt_trichotomy j i with g | g | g
                  · exact g
                  · rw [g, hy] at k1; cases k1; omega
                  · have := hW.2.2.1 i j y y' g hy k1; omega
                rw [← k2]
                exact ih j y' T3 J3 li3 _ _ (by omega) k1 h3 (mBy_fr hB hf13 (by decide)) ((hg13 19 (by decide)).trans h19) h25' (fun L T4 J4 li4 e4 hf4 hg4 h4 => hret _ T4 J4 li4 (by rw [chn, hy]; dsimp only; rw [if_neg hd0];  rw [if_neg hd1, ex]; dsimp only; rw [e4]) (fr_trans hf13 hf4) (gf_trans hg13 hg4) h4) (fun k pl T4 J4 li4 e4 hf4 hg4 h4 => hbad k pl T4 J4 li4 (by rw [chn, hy]; dsimp only; rw [if_neg hd0];  rw [if_neg hd1, ex]; dsimp only; rw [e4]) (fr_trans hf13 hf4) (gf_trans (gf_mono hg13 (fun j hj => by simp only [List.mem_cons, List.not_mem_nil, or_false] at hj ⊢; omega)) hg4) h4)
      · rw [hc] at e2; cases e2
    · rw [eh] at e1; cases e1
theorem q_mchain {S : am_S} {I : Nat → Int32} {li : Int64} {s e f0 : Nat} {cps : List jCp} {ks : List jK} (hb : ∀ j, b j < 256) (hw : w ≤ 1) (he : e ≤ 960) (hs : s + 20 ≤ e) (hW : chW b s e f0 cps) (h : am_get S 408 = some (moC I st li)) (hB : mBy S b w) (h19 : I 19 = nI w) (h25 : I 25 = 0)
    (hret : ∀ L T J li2, lnk b s cps ks = .inr L → fr [408] S T → gf [21, 22, 57] I J → am_get T 408 = some (moC J st li2) → Q (.inl none, T))
    (hbad : ∀ k pl T J li2, lnk b s cps ks = .inl (k, pl) → fr [408] S T → gf [21, 22, 25, 26, 57] I J → mX T J st li2 k pl → Q (.inl none, T)) : ev X (d + 6) 124 [.ref 408, .int (nI s), .int (nI e)] S Q := by
  refine ev_wp (L0 := [some (.ref 408), some (.int (nI s)), some (.int (nI e)), none, none, none, none, none]) (Nat.le_of_ble_eq_true rfl) rfl ?_
  have hw2 : w2 b (s + 10) < 65536 := fxN_lt hb 2
  iterate 4 refine wp_step rfl rfl ?_
  rw [show nI s + (Int8.ofInt 10).toInt32 = nI (s + 10) from nI_add s 10]
  refine wp_c0 rfl rfl (by decide) rfl (recv_ok h rfl) rfl (q_mtwo hb h hB h19 hw (by omega) ?_)
  iterate 2 refine wp_step rfl rfl ?_
  refine wp_if rfl (fun c0 => ?_) (fun c0 => ?_)
  · replace c0 := z_ne_t (a := w2 b (s + 10)) (by omega) c0
    iterate 3 refine wp_step rfl rfl ?_
    rw [nI_add]
    iterate 5 refine wp_step rfl rfl ?_
    refine wp_c0 rfl rfl (by decide) rfl (recv_ok h rfl) rfl (q_misck hb hw he (by omega) (by omega) hW.1 h hB h19 h25 (fun T J li2 hf1 hg1 h1 => ?_))
    have h25' : J 25 = 0 := (hg1 25 (by decide)).trans h25
    cases ec : isC b e (s + w2 b (s + 10)) f0 (s + 20) with
    | false =>
      refine wp_if_f rfl rfl ?_
      iterate 5 refine wp_step rfl rfl ?_
      rw [show nI s + (Int8.ofInt 10).toInt32 = nI (s + 10) from nI_add s 10]
      refine wp_c0 rfl rfl (by decide) rfl (recv_ok h1 rfl) rfl (q_mwrong h1 h25' (fun T2 hf2 h2 => ?_))
      refine wp_vret rfl rfl (hbad 7 (s + 10) T2 _ _ (by rw [lnk, if_neg c0, (cpx_none hW).mpr ec]) (fr_trans hf1 hf2) (gf_up (gf_up (gf_mono hg1 (fun j hj => by simp only [List.mem_cons, List.not_mem_nil, or_false] at hj ⊢; omega)) (by simp)) (by simp)) ⟨h2, pk_us, by decide, (pk_un (by decide)).trans pk_us⟩)
    | true =>
      refine wp_if_t rfl rfl ?_
      iterate 2 refine wp_step rfl rfl ?_
      cases ex : cpx cps (s + w2 b (s + 10)) with
      | none => rw [(cpx_none hW).mp ex] at ec; cases ec
      | some j =>
        obtain ⟨y', k1, k2, k3⟩ := cpx_some ex
        rw [← k2]
        exact ch_loop hb hw he hW cps.length j y' T J li2 none none k3 k1 h1 (mBy_fr hB hf1 (by decide)) ((hg1 19 (by decide)).trans h19) h25' (fun L T4 J4 li4 e4 hf4 hg4 h4 => hret _ T4 J4 li4 (by rw [lnk, if_neg c0, ex]; exact e4) (fr_trans hf1 hf4) (gf_trans hg1 hg4) h4) (fun k pl T4 J4 li4 e4 hf4 hg4 h4 => hbad k pl T4 J4 li4 (by rw [lnk, if_neg c0, ex]; exact e4) (fr_trans hf1 hf4) (gf_trans (gf_mono hg1 (fun j hj => by simp only [List.mem_cons, List.not_mem_nil, or_false] at hj ⊢; omega)) hg4) h4)
  · replace c0 := z_ne_f (a := w2 b (s + 10)) (by omega) c0
    refine wp_vret rfl rfl (hret _ S I li (by rw [lnk, if_pos c0]) (fr_refl _ _) (gf_refl _ _) h)
end MCHAIN
