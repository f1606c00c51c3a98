/-! THE MODEL: open, its loops -/
theorem rdCk_len {b : Nat → Nat} {tot s e : Nat} {re re' : jRe} (h : rdCk b tot s re = .inr (e, re')) : re'.2.2.length = re.2.2.length + 1 ∧ e ≤ tot := by
  unfold rdCk at h
  split at h
  · cases h
  · cases eh : rdH b tot s with
    | inl er => rw [eh] at h; cases h
    | inr z =>
      have hz := rdH_ok eh
      rw [eh] at h
      dsimp only at h
      cases em : rdM b s (s + z) with
      | inl er => rw [em] at h; cases h
      | inr τ =>
        rw [em] at h
        dsimp only at h
        split at h
        · cases ee : rdEs τ b re.2.2.length (s + z) 960 (s + 20) (re.1, [], [], re.2.1) with
          | inl er => rw [ee] at h; cases h
          | inr x =>
            obtain ⟨n', cps, ks, evs⟩ := x
            rw [ee] at h
            dsimp only at h
            cases el : lnk b s cps ks with
            | inl er => rw [el] at h; cases h
            | inr L =>
              rw [el] at h
              dsimp only at h
              cases h
              exact ⟨by simp, hz.2.2.1⟩
        · cases h
section MOPEN
variable {X : Nat × (Nat → Int32)} {d : Nat} {Q : am_R → Prop} {st li : Int64} {b : Nat → Nat} {w tot : Nat}
theorem mo_copy {n : Nat} {F : Nat → Int32} {I : Nat → Int32} (hw : w ≤ 1) (hn : n ≤ 960) (h2 : I 2 = nI n) (h19 : I 19 = nI w) : ∀ (m k : Nat) (S : am_S) (mb : Nat → Int32), k + m = n → am_get S 408 = some (moC I st li) → am_get S 409 = some (iA 960 F) → am_get S 410 = some (iA 1920 mb) →
    (∀ T mb', fr [410] S T → am_get T 410 = some (iA 1920 mb') → (∀ i, k ≤ i → i < n → mb' (960 * w + i) = F i) → (∀ j, ¬ (960 * w + k ≤ j ∧ j < 960 * w + n) → mb' j = mb j) → ∀ z, wp X d 112 52 [some (.ref 408), some (.int z), none, none, none] [] T Q) → wp X d 112 17 [some (.ref 408), some (.int (nI k)), none, none, none] [] S Q := by
  intro m
  induction m with
  | zero =>
    intro k S mb hk h h9 hm hret
    have e9 : k = n := by omega
    subst e9
    iterate 2 refine wp_step rfl rfl ?_
    refine wp_getg (v := (.int (nI k))) rfl h (by decide) (congrArg Value.int h2) ?_
    refine wp_icmp rfl (fun c0 => ?_) (fun c0 => ?_)
    · replace c0 := n_ge_t (a := k) (b := k) (by omega) (by omega) c0
      exact hret S mb (fr_refl _ _) hm (fun i h1 h2 => by omega) (fun j _ => rfl) _
    · replace c0 := n_ge_f (a := k) (b := k) (by omega) (by omega) c0
      omega
  | succ m ih =>
    intro k S mb hk h h9 hm hret
    iterate 2 refine wp_step rfl rfl ?_
    refine wp_getg (v := (.int (nI n))) rfl h (by decide) (congrArg Value.int h2) ?_
    refine wp_icmp rfl (fun c0 => ?_) (fun c0 => ?_)
    · replace c0 := n_ge_t (a := k) (b := n) (by omega) (by omega) c0
      omega
    · replace c0 := n_ge_f (a := k) (b := n) (by omega) (by omega) c0
      refine wp_step rfl rfl ?_
      refine wp_getg rfl h (by decide) rfl ?_
      iterate 2 refine wp_step rfl rfl ?_
      refine wp_getg (v := (.int (nI w))) rfl h (by decide) (congrArg Value.int h19) ?_
      iterate 3 refine wp_step rfl rfl ?_
      rw [show (Int16.ofInt 960).toInt32 * nI w + nI k = nI (960 * w + k) by rw [show (Int16.ofInt 960).toInt32 = nI 960 from rfl, pk_mul, nI_add]]
      refine wp_step rfl rfl ?_
      refine wp_getg rfl h (by decide) rfl ?_
      refine wp_step rfl rfl ?_
      refine wp_ald rfl (Or.inl ⟨rfl, rfl⟩) (by decide) h9 (am_in_nI (by omega) (by decide)) ?_
      rw [nI_clamp (by omega)]
      refine wp_ast rfl (Or.inl ⟨rfl, rfl⟩) hm (am_in_nI (by omega) (by decide)) ?_
      rw [nI_clamp (by omega)]
      rw [show vp_nar (am_ty 0) (F k) = F k from rfl]
      show wp X d 112 46 [some (.ref 408), some (.int (nI k)), none, none, none] [] (am_upd S 410 (iA 1920 (upd mb (960 * w + k) (F k)))) Q
      have h' : am_get (am_upd S 410 (iA 1920 (upd mb (960 * w + k) (F k)))) 408 = some (moC I st li) := (am_get_ne (by decide)).trans h
      have h9' : am_get (am_upd S 410 (iA 1920 (upd mb (960 * w + k) (F k)))) 409 = some (iA 960 F) := (am_get_ne (by decide)).trans h9
      have hm' : am_get (am_upd S 410 (iA 1920 (upd mb (960 * w + k) (F k)))) 410 = some (iA 1920 (upd mb (960 * w + k) (F k))) := am_get_self hm
      have hf : fr [410] S (am_upd S 410 (iA 1920 (upd mb (960 * w + k) (F k)))) := fr_up (by simp)
      generalize am_upd S 410 (iA 1920 (upd mb (960 * w + k) (F k))) = S1 at h' h9' hm' hf ⊢
      iterate 2 refine wp_step rfl rfl ?_
      rw [show nI k + Int32.ofInt 1 = nI (k + 1) from nI_add k 1]
      exact ih (k + 1) S1 _ (by omega) h' h9' hm' (fun T mb' hf2 hm2 g1 g2 z => hret T mb' (fr_trans hf hf2) hm2 (fun i i1 i2 => by
          by_cases e9 : i = k
          · rw [g2 _ (by omega), e9]; exact pk_us
          · exact g1 i (by omega) i2) (fun j hj => by rw [g2 j (by omega)]; exact pk_un (by omega)) z)
set_option maxHeartbeats 1000000 in
theorem mo_loop (hb : ∀ j, b j < 256) (hw : w ≤ 1) (ht : tot ≤ 960) : ∀ (f s n : Nat) (evs : List jEv) (cks : List jCk) (S : am_S) (I : Nat → Int32) (li : Int64) (K : jMK) (M : jMT) (E : jME) (C : jMC), 5 ≤ f + cks.length → s ≤ tot → am_get S 408 = some (moC I st li) → mBy S b w → I 19 = nI w → I 25 = 0 → mSz S w tot → mSk S K → mV I true n → mTa S M → mEA S E → mEs E w evs → evs.length ≤ 60 → mCA S C → mCs C w cks → cks.length ≤ 4 → mTs M w cks →
    (∀ re' T J li' K' M' E' C', rdO b tot f s (n, evs, cks) = .inr re' → fr [408, 412, 413, 414, 415, 416, 417, 418, 419, 420, 421, 422, 423, 424, 425, 426, 427] S T → gf [20, 21, 22, 24, 29, 57] I J → am_get T 408 = some (moC J st li') → mSk T K' → mV J true re'.1 → mTa T M' → mEA T E' → mEs E' w re'.2.1 → mEo E E' w → mCA T C' → mCs C' w re'.2.2 → mCo C C' w → mTw M M' w → mTs M' w re'.2.2 → re'.2.1.length ≤ 60 → re'.2.2.length ≤ 4 → ∀ z1 z2, wp X (d + 10) 112 153 [some (.ref 408), some (.int z1), some (.int z2), none, none] [] T Q) →
    (∀ k pl T J li' K' M' E' C', rdO b tot f s (n, evs, cks) = .inl (k, pl) → fr [408, 412, 413, 414, 415, 416, 417, 418, 419, 420, 421, 422, 423, 424, 425, 426, 427] S T → gf [20, 21, 22, 24, 25, 26, 29, 57] I J → mX T J st li' k pl → mSk T K' → mTa T M' → mEA T E' → mEo E E' w → mCA T C' → mCo C C' w → mTw M M' w → ∀ z1 z2, wp X (d + 10) 112 153 [some (.ref 408), some (.int z1), some (.int z2), none, none] [] T Q) → wp X (d + 10) 112 114 [some (.ref 408), some (.int (nI s)), some (.int 1), none, none] [] S Q := by
  intro f
  induction f with
  | zero => intro s n evs cks S I li K M E C h5 _ _ _ _ _ _ _ _ _ _ _ _ _ _ h4c; omega
  | succ f ih =>
    intro s n evs cks S I li K M E C h5 hs h hB h19 h25 hz hK hV hM hE hEs h60 hC hCs h4c hTs hret hbad
    refine wp_step rfl rfl ?_
    refine wp_if_f rfl rfl ?_
    refine wp_step rfl rfl ?_
    refine wp_getg (v := (.int 0)) rfl h (by decide) (congrArg Value.int h25) ?_
    refine wp_if_f rfl rfl ?_
    iterate 2 refine wp_step rfl rfl ?_
    refine wp_c0 rfl rfl (by decide) rfl (recv_ok h rfl) rfl (q_mchunk (d := d) hb h hB h19 h25 hw hz ht hs hK hV hM hE hEs h60 hC hCs h4c hTs (fun e' re' T J li' K' M' E' C' e1 hf1 hg1 h1 hK1 hV1 hM1 hE1 hEs1 hEo1 hC1 hCs1 hCo1 hTw1 hTs1 h601 h41 => ?_) (fun k pl z T J li' K' M' E' C' e1 hf1 hg1 h1 hK1 hM1 hE1 hEo1 hC1 hCo1 hTw1 => ?_))
    · obtain ⟨sz, hz1, hz2⟩ := mSz_fr hz hf1 (by decide)
      have hl := rdCk_len e1
      iterate 3 refine wp_step rfl rfl ?_
      refine wp_getg rfl h1 (by decide) rfl ?_
      refine wp_step rfl rfl ?_
      refine wp_getg (v := (.int (nI w))) rfl h1 (by decide) (congrArg Value.int ((hg1 19 (by decide)).trans h19)) ?_
      refine wp_ald rfl (Or.inl ⟨rfl, rfl⟩) (by decide) hz1 (am_in_nI (by omega) (by decide)) ?_
      rw [nI_clamp (by omega)]
      rw [hz2]
      refine wp_icmp rfl (fun c1 => ?_) (fun c1 => ?_)
      · replace c1 := n_ge_t (a := e') (b := tot) (by omega) (by omega) c1
        iterate 3 refine wp_step rfl rfl ?_
        refine wp_step rfl rfl ?_
        refine wp_if_t rfl rfl ?_
        exact hret re' T J li' K' M' E' C' (by rw [rdO, e1]; dsimp only; rw [if_neg (by omega)]) hf1 hg1 h1 hK1 hV1 hM1 hE1 hEs1 hEo1 hC1 hCs1 hCo1 hTw1 hTs1 h601 h41 _ _
      · replace c1 := n_ge_f (a := e') (b := tot) (by omega) (by omega) c1
        iterate 4 refine wp_step rfl rfl ?_
        obtain ⟨n', evs', cks'⟩ := re'
        have hrd : rdO b tot (f + 1) s (n, evs, cks) = rdO b tot f e' (n', evs', cks') := by rw [rdO, e1]; dsimp only; rw [if_pos c1]
        exact ih e' n' evs' cks' T J li' K' M' E' C' (by have := hl.1; dsimp only at this; omega) hl.2 h1 (mBy_fr hB hf1 (by decide)) ((hg1 19 (by decide)).trans h19) ((hg1 25 (by decide)).trans h25) ⟨sz, hz1, hz2⟩ hK1 hV1 hM1 hE1 hEs1 h601 hC1 hCs1 h41 hTs1 (fun re9 T9 J9 li9 K9 M9 E9 C9 e9 hf9 hg9 h9 hK9 hV9 hM9 hE9 hEs9 hEo9 hC9 hCs9 hCo9 hTw9 hTs9 h609 h49 => hret re9 T9 J9 li9 K9 M9 E9 C9 (hrd.trans e9) (fr_trans hf1 hf9) (gf_trans hg1 hg9) h9 hK9 hV9 hM9 hE9 hEs9 (mEo_trans hEo1 hEo9) hC9 hCs9 (mCo_trans hCo1 hCo9) (mTw_trans hTw1 hTw9) hTs9 h609 h49) (fun k pl T9 J9 li9 K9 M9 E9 C9 e9 hf9 hg9 h9 hK9 hM9 hE9 hEo9 hC9 hCo9 hTw9 => hbad k pl T9 J9 li9 K9 M9 E9 C9 (hrd.trans e9) (fr_trans hf1 hf9) (gf_trans (gf_mono hg1 (fun j hj => by simp only [List.mem_cons, List.not_mem_nil, or_false] at hj ⊢; omega)) hg9) h9 hK9 hM9 hE9 (mEo_trans hEo1 hEo9) hC9 (mCo_trans hCo1 hCo9) (mTw_trans hTw1 hTw9))
    · obtain ⟨sz, hz1, hz2⟩ := mSz_fr hz hf1 (by decide)
      iterate 3 refine wp_step rfl rfl ?_
      refine wp_getg rfl h1.1 (by decide) rfl ?_
      refine wp_step rfl rfl ?_
      refine wp_getg (v := (.int (nI w))) rfl h1.1 (by decide) (congrArg Value.int ((hg1 19 (by decide)).trans h19)) ?_
      refine wp_ald rfl (Or.inl ⟨rfl, rfl⟩) (by decide) hz1 (am_in_nI (by omega) (by decide)) ?_
      rw [nI_clamp (by omega)]
      rw [hz2]
      refine wp_icmp rfl (fun c9 => ?_) (fun c9 => ?_)
      · iterate 3 refine wp_step rfl rfl ?_
        refine wp_step rfl rfl ?_
        refine wp_if_t rfl rfl ?_
        exact hbad k pl T J li' K' M' E' C' (by rw [rdO, e1]) hf1 hg1 h1 hK1 hM1 hE1 hEo1 hC1 hCo1 hTw1 _ _
      · iterate 4 refine wp_step rfl rfl ?_
        refine wp_step rfl rfl ?_
        refine wp_if_f rfl rfl ?_
        refine wp_step rfl rfl ?_
        refine wp_getg (v := (.int k)) rfl h1.1 (by decide) (congrArg Value.int h1.2.1) ?_
        refine wp_if_t rfl (c1_ne0 h1.2.2.1) ?_
        exact hbad k pl T J li' K' M' E' C' (by rw [rdO, e1]) hf1 hg1 h1 hK1 hM1 hE1 hEo1 hC1 hCo1 hTw1 _ _
end MOPEN
