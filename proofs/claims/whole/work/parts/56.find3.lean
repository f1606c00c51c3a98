/-! Recording.find: the walk -/
theorem sh_c (x : Int32) (k : Nat) (hk : k < 32) : ((x.toUInt32 >>> UInt32.ofNat k).toInt32 &&& nI 255) = nI (x.toBitVec.toNat / 2 ^ k % 256) := by
  apply Int32.toBitVec_inj.mp
  show (x.toBitVec >>> (BitVec.ofNat 32 k % 32)) &&& BitVec.ofNat 32 255 = BitVec.ofNat 32 _
  apply BitVec.eq_of_toNat_eq
  rw [BitVec.toNat_and, BitVec.toNat_ofNat, BitVec.toNat_ofNat]
  rw [show (x.toBitVec >>> (BitVec.ofNat 32 k % 32)).toNat = x.toBitVec.toNat / 2 ^ k from by
    rw [BitVec.ushiftRight_eq', BitVec.toNat_ushiftRight, Nat.shiftRight_eq_div_pow, BitVec.toNat_umod, BitVec.toNat_ofNat, show BitVec.toNat (32 : BitVec 32) = 32 from rfl, Nat.mod_eq_of_lt (show k < 2 ^ 32 by omega), Nat.mod_eq_of_lt hk]]
  rw [show (255 % 2 ^ 32 : Nat) = 2 ^ 8 - 1 from by decide, Nat.and_two_pow_sub_one_eq_mod]
  omega
theorem sh_cl (x : Int32) {i : Nat} (hi : i < 4) : (x.toUInt32 >>> (((Int8.ofInt 8).toInt32 * nI i).toUInt32 &&& Int32.toUInt32 31)).toInt32 &&& (Int16.ofInt 255).toInt32 = nI (stepAt x i) := by
  have e : ∀ j : Fin 4, ((Int8.ofInt 8).toInt32 * nI j.val).toUInt32 &&& Int32.toUInt32 31 = UInt32.ofNat (8 * j.val) := by decide
  rw [e ⟨i, hi⟩]
  exact sh_c x (8 * i) (by omega)
theorem stepAt_lt (x : Int32) (i : Nat) : stepAt x i < 256 := Nat.mod_lt _ (by decide)
section FIND3
variable {X : Nat × (Nat → Int32)} {d : Nat} {Q : am_R → Prop} {b : Nat → Nat} {tot R c n0 l0 : Nat} {τ : jTT} {A : jVA} {S : am_S} {L : List jK}
theorem stl_ty {b : Nat → Nat} {tot : Nat} {L : List jK} (hL : ∀ k, k ∈ L → k.1 < 2 ^ 31) : ∀ {f : Nat} {w w' : jV}, w.1 < 2 ^ 31 → stl b tot L f w = some w' → w'.1 < 2 ^ 31 := by
  intro f
  induction f with
  | zero =>
    intro w w' hw h
    unfold stl at h
    split at h
    · cases h; exact hw
    · cases h
  | succ f ih =>
    intro w w' hw h
    unfold stl at h
    split at h
    · cases h; exact hw
    · split at h
      · cases h
      · rename_i k ek
        exact ih (hL k (List.mem_of_find?_eq_some ek)) h
theorem stp_ty {τ : jTT} {b : Nat → Nat} {tot : Nat} {w w' : jV} {c : Nat} (hwf : wfT τ) (hw : w.1 < 2 ^ 31) (h : stp τ b tot w c = some w') : w'.1 < 2 ^ 31 := by
  unfold stp at h
  split at h
  · split at h
    · cases h
    · split at h
      · cases h
      · split at h
        · cases h
        · split at h
          · cases h
          · cases h; exact hw
  · split at h
    · split at h
      · cases h
      · split at h
        · cases h
        · rename_i x hx
          split at h
          · cases h
          · split at h
            · cases h
            · rename_i y hy
              split at h
              · cases h
              · cases h
                have := (wf_fd hwf hx hy).1
                unfold fdOK at this
                exact this.2.2.1
    · cases h
theorem fd_none {e path : Int32} {i : Nat} {x6 : Option Value} (hi : i < 2 ^ 31) (hq : Q (.inl (some (.int (-1))), S)) : wp X d 38 23 [some (.ref R), some (.int e), some (.int path), some (.ref c), some (.int (-1)), some (.int (nI i)), x6] [] S Q := by
  iterate 2 refine wp_step rfl rfl ?_
  refine wp_icmp rfl (fun c0 => ?_) (fun c0 => ?_)
  · replace c0 := n_ge_t (a := i) (b := 4) (by omega) (by omega) c0
    refine wp_step rfl rfl ?_
    refine wp_iret rfl rfl rfl hq
  · replace c0 := n_ge_f (a := i) (b := 4) (by omega) (by omega) c0
    iterate 2 refine wp_step rfl rfl ?_
    refine wp_icmp_t rfl rfl ?_
    refine wp_step rfl rfl ?_
    refine wp_iret rfl rfl rfl hq
set_option maxHeartbeats 1000000 in
theorem fd_loop {e path ci ne : Int32} (hre : am_get S R = some (reC R ci ne)) (hv : vS S (R + 2) n0 l0 A) (hR9 : R < 700000) (hc9 : c < 800000) (hC : ckL S b tot c τ L A) : ∀ (f i : Nat) (o : Option jV) (r : Int32) (x6 : Option Value), i + f = 4 → (∀ w, o = some w → w.1 < 2 ^ 31) → rsC τ b tot A r o → (∀ r, rsF τ b tot A r (ldp τ b tot L path f i o) → Q (.inl (some (.int r)), S)) → wp X (d + 2) 38 23 [some (.ref R), some (.int e), some (.int path), some (.ref c), some (.int r), some (.int (nI i)), x6] [] S Q := by
  intro f
  induction f with
  | zero =>
    intro i o r x6 hi hty hr hq
    iterate 2 refine wp_step rfl rfl ?_
    refine wp_icmp rfl (fun c0 => ?_) (fun c0 => ?_)
    · replace c0 := n_ge_t (a := i) (b := 4) (by omega) (by omega) c0
      refine wp_step rfl rfl ?_
      refine wp_iret rfl rfl rfl (hq r hr)
    · replace c0 := n_ge_f (a := i) (b := 4) (by omega) (by omega) c0
      omega
  | succ f ih =>
    intro i o r x6 hi hty hr hq
    iterate 2 refine wp_step rfl rfl ?_
    refine wp_icmp rfl (fun c0 => ?_) (fun c0 => ?_)
    · replace c0 := n_ge_t (a := i) (b := 4) (by omega) (by omega) c0
      omega
    · replace c0 := n_ge_f (a := i) (b := 4) (by omega) (by omega) c0
      have hr1 : r ≠ -1 := by
        cases o with
        | none => rw [show r = nI 0 from hr]; decide
        | some w => obtain ⟨nd, h1, h2, h3⟩ := hr; rw [h1]; exact nI_ne1 (by have := (nv_kd h2).2.1; omega)
      iterate 2 refine wp_step rfl rfl ?_
      refine wp_icmp_f rfl (decide_eq_false hr1) ?_
      iterate 7 refine wp_step rfl rfl ?_
      rw [sh_cl path c0]
      refine wp_step rfl rfl ?_
      show wp X _ 38 48 [some (.ref R), some (.int e), some (.int path), some (.ref c), some (.int r), some (.int (nI i)), some (.int (nI (stepAt path i)))] [] S Q
      have hs9 := stepAt_lt path i
      refine wp_step rfl rfl ?_
      refine wp_if rfl (fun c1 => ?_) (fun c1 => ?_)
      · replace c1 := z_ne_t (a := stepAt path i) (by omega) c1
        cases o with
        | none =>
          have e9 : r = nI 0 := hr
          subst e9
          iterate 3 refine wp_step rfl rfl ?_
          refine wp_getg rfl hre (by decide) rfl ?_
          iterate 3 refine wp_step rfl rfl ?_
          refine wp_c0 rfl rfl (by decide) rfl (recv_ok hv.1 rfl) rfl (q_partNull hv (by omega) ?_)
          refine wp_c0 rfl rfl (by decide) rfl (recv_ok hre rfl) rfl (q_constForN hre ?_)
          iterate 3 refine wp_step rfl rfl ?_
          rw [show nI i + Int32.ofInt 1 = nI (i + 1) from nI_add i 1]
          exact fd_none (by omega) (hq (-1) (by unfold ldp; rw [if_neg c1]; exact rfl))
        | some w =>
          obtain ⟨nd, e9, hn, hk⟩ := hr
          subst e9
          iterate 3 refine wp_step rfl rfl ?_
          refine wp_getg rfl hre (by decide) rfl ?_
          iterate 3 refine wp_step rfl rfl ?_
          refine wp_c0 rfl rfl (by decide) rfl (recv_ok hv.1 rfl) rfl (q_part hv hC.2.1 hC.1 (by omega) hc9 hn hs9 (fun hst => ?_) (fun w2 nd2 hst hn2 => ?_))
          · refine wp_c0 rfl rfl (by decide) rfl (recv_ok hre rfl) rfl (q_constForN hre ?_)
            iterate 3 refine wp_step rfl rfl ?_
            rw [show nI i + Int32.ofInt 1 = nI (i + 1) from nI_add i 1]
            exact fd_none (by omega) (hq (-1) (by unfold ldp; rw [if_neg c1]; dsimp only; rw [hst]; exact rfl))
          · have hw2 := stp_ty hC.1 (hty w rfl) hst
            refine wp_c0 rfl rfl (by decide) rfl (recv_ok hre rfl) rfl (q_constFor hre hv hR9 hc9 hC hw2 hn2 (fun r2 hr2 => ?_))
            iterate 3 refine wp_step rfl rfl ?_
            rw [show nI i + Int32.ofInt 1 = nI (i + 1) from nI_add i 1]
            exact ih (i + 1) (stl b tot L 6 w2) r2 _ (by omega) (fun w3 h3 => stl_ty (fun k hk => (hC.2.2.2.2 k hk).1) hw2 h3) hr2 (fun r3 hr3 => hq r3 (by unfold ldp; rw [if_neg c1]; dsimp only; rw [hst]; exact hr3))
      · replace c1 := z_ne_f (a := stepAt path i) (by omega) c1
        refine wp_step rfl rfl ?_
        refine wp_iret rfl rfl rfl (hq r (by unfold ldp; rw [if_pos c1]; exact hr))
/-- an event of a recording, its chunk, and where a path leads from it -/
noncomputable def ldE (b : Nat → Nat) (tot : Nat) (re : jRe) (y : jEv) (path : Int32) : Option (Option jV) := match re.2.2[y.1]? with
  | none => none
  | some ck => ldp ck.2.2.1 b tot ck.2.2.2 path 4 0 (some (y.2.2.2.1, 0, y.2.2.2.2.1))
theorem reO_ev {l e : Nat} {E : jEA} {re : jRe} {y : jEv} (h : reO S b tot R l A E re) (hy : re.2.1[e]? = some y) : ∃ ck, re.2.2[y.1]? = some ck ∧ y.1 < 4 ∧ ckL S b tot (R + 11 + 45 * y.1) ck.2.2.1 ck.2.2.2 A ∧ nv ck.2.2.1 b tot A y.2.2.2.2.2 (y.2.2.2.1, 0, y.2.2.2.2.1) ∧ isKd ck.2.2.1 y.2.2.2.1 1 ∧ y.2.2.2.1 < 2 ^ 31 ∧ 10 < y.2.2.2.1 ∧ ckF S b (R + 11 + 45 * y.1) ck ∧ w4 b (ck.1 + 16) ≠ 0 := by
  obtain ⟨h1, h2, h3, h4, h5, h6, h7, h8, h9, h10, h11, h12⟩ := h
  obtain ⟨τ, g1, g2, g3, e9, len, p1, p2, g4, g5, g6⟩ := h5 y (mem_at hy)
  rw [List.getElem?_map] at g1
  cases eck : re.2.2[y.1]? with
  | none => rw [eck] at g1; cases g1
  | some ck =>
    rw [eck] at g1
    have g1 : ck.2.2.1 = τ := by simpa using g1
    subst g1
    obtain ⟨a1, a2, a3, a4, a5, a6, a7, a8⟩ := h11 ck (mem_at eck)
    obtain ⟨f0, f1, f2, K, f3, f4⟩ := h7 y.1 ck eck
    have hlt := (List.getElem?_eq_some_iff.mp eck).1
    have hid := (hd_ok g5).2.2.2.2.2.1
    have nvx : ∀ ty vp nd, dvx ck.2.2.1 b tot A re.1 l ty vp nd → nv ck.2.2.1 b tot A nd (ty, 0, vp) := by
      rintro ty vp nd ⟨lim, l9, p', n', l', q1, q2, q3, q4⟩
      exact ⟨21, lim, l9, p', n', l', Nat.le_refl _, q1, by omega, q4⟩
    have hk10 : 10 < y.2.2.2.1 := by
      obtain ⟨t, x, k1, k2, k3⟩ := g3
      obtain ⟨x', m1, m2, m3⟩ := tix_some k1
      have := (wf_ty a3 m1).1
      unfold tyOK at this
      omega
    refine ⟨ck, rfl, by omega, ⟨a3, ⟨⟨_, _, _, _, _, f0⟩, f1, f2⟩, ⟨_, _, _, _, _, K, f0, f3, f4⟩, a7, fun k hk => ⟨?_, nvx _ _ _ (a6 k hk).1⟩⟩, nvx _ _ _ g2, g3, hid, hk10, ⟨f0, f1, f2, K, f3, f4⟩, a8⟩
    have hok := (a6 k hk).2
    unfold okK at hok
    rw [Bool.or_eq_true] at hok
    rcases hok with q | q
    · have := of_decide_eq_true q; omega
    · obtain ⟨t, x, k1, k2, k3⟩ := kdb_iff.mp q
      obtain ⟨x', m1, m2, m3⟩ := tix_some k1
      have := (wf_ty a3 m1).1
      unfold tyOK at this
      omega
theorem q_find {l e : Nat} {E : jEA} {re : jRe} {y : jEv} {path : Int32} (hR9 : R < 600000) (hO : reO S b tot R l A E re) (hy : re.2.1[e]? = some y) (hq : ∀ ck r, re.2.2[y.1]? = some ck → rsF ck.2.2.1 b tot A r (ldE b tot re y path) → Q (.inl (some (.int r)), S)) : ev X (d + 3) 38 [.ref R, .int (nI e), .int path] S Q := by
  refine ev_wp (L0 := [some (.ref R), some (.int (nI e)), some (.int path), none, none, none, none]) (Nat.le_of_ble_eq_true rfl) rfl ?_
  obtain ⟨ck, hck, hc4, hC, hn, hkd, hid, hid10, hF, -⟩ := reO_ev hO hy
  obtain ⟨hv, hr, hE, h60, hEG, hRF, hCF, hCA, h4, hn1, hCP, hl960⟩ := id hO
  obtain ⟨F, hF1, hF2⟩ := hRF
  obtain ⟨a1, a2, a3⟩ := hE e y hy
  have he60 := (List.getElem?_eq_some_iff.mp hy).1
  refine wp_step rfl rfl ?_
  refine wp_getg rfl hr.1 (by decide) rfl ?_
  refine wp_step rfl rfl ?_
  refine wp_getg rfl hr.1 (by decide) rfl ?_
  refine wp_step rfl rfl ?_
  refine wp_ald rfl (Or.inl ⟨rfl, rfl⟩) (by omega) hr.2.1 (am_in_nI (by omega) (by decide)) ?_
  rw [nI_clamp (by omega)]
  rw [a1]
  refine wp_aald rfl (by omega) hF1 (by decide) (am_in_nI (by omega) (by decide)) ?_
  rw [nI_clamp (by omega)]
  rw [hF2 y.1 hc4]
  iterate 2 refine wp_step rfl rfl ?_
  refine wp_getg rfl hr.1 (by decide) rfl ?_
  refine wp_step rfl rfl ?_
  refine wp_ald rfl (Or.inl ⟨rfl, rfl⟩) (by omega) hr.2.2.2 (am_in_nI (by omega) (by decide)) ?_
  rw [nI_clamp (by omega)]
  rw [a3]
  iterate 3 refine wp_step rfl rfl ?_
  show wp X (d + 2) 38 23 [some (.ref R), some (.int (nI e)), some (.int path), some (.ref (R + 11 + 45 * y.1)), some (.int (nI y.2.2.2.2.2)), some (.int (nI 0)), none] [] S Q
  refine fd_loop hr.1 hv (by omega) (by omega) hC 4 0 (some (y.2.2.2.1, 0, y.2.2.2.2.1)) _ none (by omega) (fun w h9 => by cases h9; exact hid) ⟨y.2.2.2.2.2, rfl, hn, ?_⟩ (fun r hr9 => hq ck r hck ?_)
  · unfold kdOf
    dsimp only
    rw [if_neg (by omega), if_neg (by omega), if_neg (by omega), if_neg (by omega)]
    omega
  · unfold ldE
    rw [hck]
    exact hr9
end FIND3
