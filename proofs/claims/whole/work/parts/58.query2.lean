/-! the class's answers -/
def kdR (b : Nat → Nat) (o : Option (Option jV)) : Nat := match o with
  | none => 0
  | some none => 1
  | some (some w) => kdOf b w
def wrE (b : Nat → Nat) (tot : Nat) (re : jRe) (y : jEv) (o : Option jV) : Int64 := match o with
  | none => 0
  | some w => (match re.2.2[y.1]? with
    | none => 0
    | some ck => wrOf ck.2.2.1 b tot w)
def isTx (b : Nat → Nat) (o : Option (Option jV)) : Option jV := match o with
  | some (some w) => if kdOf b w = 10 then some w else none
  | _ => none
def isNm (b : Nat → Nat) (o : Option (Option jV)) : Bool := decide (2 ≤ kdR b o ∧ kdR b o ≤ 7)
def nnx (tk st f : Int64) : Int64 := fdv (tk - st) f * 1000000000 + fmd (tk - st) f * 1000000000 / f
def nnE (b : Nat → Nat) (re : jRe) (y : jEv) : Int64 := match re.2.2[y.1]? with
  | none => 0
  | some ck => nnx y.2.2.1 (lN (w4 b (ck.1 + 12))) (lN (w4 b (ck.1 + 16)))
def clR (S : am_S) (rec sp : Nat) (cc mp : Int32) (b : Nat → Nat) (tot l : Nat) (A : jVA) (E : jEA) (re : jRe) : Prop := am_get S 0 = some (frC rec sp cc mp) ∧ reO S b tot rec l A E re ∧ 11 ≤ rec ∧ rec + 191 ≤ 393
theorem lN_pos {n : Nat} (h : n ≠ 0) (h2 : n < 2 ^ 32) : 0 < lN n := by
  rw [Int64.lt_iff_toInt_lt]
  show (0 : Int) < (Int64.ofNat n).toInt
  rw [Int64.toInt_ofNat_of_lt (by omega)]
  omega
section QUERY2
variable {X : Nat × (Nat → Int32)} {d : Nat} {Q : am_R → Prop} {S : am_S} {rec sp tot l : Nat} {cc mp : Int32} {b : Nat → Nat} {A : jVA} {E : jEA} {re : jRe}
/-- what the node of a result holds -/
theorem rsF_at {τ : jTT} {r : Int32} {o : Option jV} {v n0 l0 : Nat} (hv : vS S v n0 l0 A) (h : rsF τ b tot A r (some o)) : ∃ nd, r = nI nd ∧ nd < 1201 ∧ A.1 nd = nI (kdR b (some o)) ∧ (kdR b (some o) ≠ 13) ∧ kdR b (some o) ≤ 13 ∧ (∀ w, o = some w → nv τ b tot A nd w ∧ A.2.1 nd = wrOf τ b tot w) ∧ (o = none → A.2.1 nd = 0) := by
  cases o with
  | none => exact ⟨0, h, by decide, hv.2.2.2.2.2.2.2.1, show (1 : Nat) ≠ 13 by decide, show (1 : Nat) ≤ 13 by decide, fun w h9 => (by cases h9), fun _ => hv.2.2.2.2.2.2.2.2⟩
  | some w =>
    obtain ⟨nd, h1, h2, h3⟩ := h
    obtain ⟨k1, k2, k3⟩ := nv_kd h2
    exact ⟨nd, h1, k2, k1, h3, k3, fun w2 h9 => by cases h9; exact ⟨h2, nv_wr h2 h3⟩, fun h9 => by cases h9⟩
theorem q_reqEvent {e : Int32} {ne : Nat} {ci : Int32} (h : am_get S 0 = some (frC rec sp cc mp)) (hr : am_get S rec = some (reC rec ci (nI ne))) (hne : ne ≤ 60) (hok : ∀ k, idx e ne = some k → Q (.inl none, S)) (hthr : idx e ne = none → Q (.inr OOB, am_thrown S)) : ev X (d + 1) 88 [.ref 0, .int e] S Q := by
  refine ev_wp (L0 := [some (.ref 0), some (.int e)]) (Nat.le_of_ble_eq_true rfl) rfl ?_
  refine wp_step rfl rfl ?_
  refine wp_if rfl (fun c0 => ?_) (fun c0 => ?_)
  · replace c0 := q_lt_t c0
    refine wp_thr rfl (by decide) (hthr (idx_neg c0))
  · replace c0 := q_lt_f c0
    iterate 2 refine wp_step rfl rfl ?_
    refine wp_getg rfl h (by decide) rfl ?_
    refine wp_getg rfl hr (by decide) rfl ?_
    refine wp_icmp rfl (fun c1 => ?_) (fun c1 => ?_)
    · replace c1 := i_lt_t c1
      obtain ⟨k, hk⟩ := idx_ok (n := ne) (by omega) c0 c1
      refine wp_vret rfl rfl (hok k hk)
    · replace c1 := i_lt_f c1
      refine wp_thr rfl (by decide) (hthr (idx_ge (by omega) c1))
theorem q_fault {what fk fp : Int32} {fed t0 pos lim idp : Nat} (h : am_get S 0 = some (frC rec sp cc mp)) (hs : am_get S 1 = some (src fed t0 pos lim idp fk fp)) (hq : Q (.inl (some (.int (if what = 0 then fk else if what = 1 then fp else -1))), S)) : ev X (d + 1) 75 [.ref 0, .int what] S Q := by
  refine ev_wp (L0 := [some (.ref 0), some (.int what)]) (Nat.le_of_ble_eq_true rfl) rfl ?_
  refine wp_step rfl rfl ?_
  refine wp_if rfl (fun c0 => ?_) (fun c0 => ?_)
  · replace c0 := q_ne_t c0
    iterate 2 refine wp_step rfl rfl ?_
    refine wp_icmp rfl (fun c1 => ?_) (fun c1 => ?_)
    · replace c1 := i_ne_t c1
      refine wp_step rfl rfl ?_
      refine wp_iret rfl rfl rfl (by rw [if_neg c0, if_neg (show ¬ what = 1 from c1)] at hq; exact hq)
    · replace c1 := i_ne_f c1
      refine wp_step rfl rfl ?_
      refine wp_getg rfl h (by decide) rfl ?_
      refine wp_getg rfl hs (by decide) rfl ?_
      refine wp_step rfl rfl ?_
      refine wp_iret rfl rfl rfl (by rw [if_neg c0, if_pos (show what = 1 from c1)] at hq; exact hq)
  · replace c0 := q_ne_f c0
    refine wp_step rfl rfl ?_
    refine wp_getg rfl h (by decide) rfl ?_
    refine wp_getg rfl hs (by decide) rfl ?_
    refine wp_iret rfl rfl rfl (by rw [if_pos c0] at hq; exact hq)
theorem q_chunks (h : clR S rec sp cc mp b tot l A E re) (hq : Q (.inl (some (.int (nI re.2.2.length))), S)) : ev X (d + 1) 76 [.ref 0] S Q := by
  refine ev_wp (L0 := [some (.ref 0)]) (Nat.le_of_ble_eq_true rfl) rfl ?_
  refine wp_step rfl rfl ?_
  refine wp_getg rfl h.1 (by decide) rfl ?_
  refine wp_getg rfl h.2.1.2.1.1 (by decide) rfl ?_
  refine wp_iret rfl rfl rfl hq
theorem q_kind {e path : Int32} (h : clR S rec sp cc mp b tot l A E re) (hret : ∀ k y, idx e re.2.1.length = some k → re.2.1[k]? = some y → Q (.inl (some (.int (nI (kdR b (ldE b tot re y path))))), S)) (hthr : idx e re.2.1.length = none → Q (.inr OOB, am_thrown S)) : ev X (d + 4) 78 [.ref 0, .int e, .int path] S Q := by
  refine ev_wp (L0 := [some (.ref 0), some (.int e), some (.int path), none]) (Nat.le_of_ble_eq_true rfl) rfl ?_
  obtain ⟨h0, hO, hrec, hrec9⟩ := h
  obtain ⟨hv, hr, hE, h60, hEG, hRF, hCF, hCA, h4, hn1, hCP, hl960⟩ := id hO
  iterate 2 refine wp_step rfl rfl ?_
  refine wp_c0 rfl rfl (by decide) rfl (recv_ok h0 rfl) rfl (q_reqEvent h0 hr.1 h60 (fun k hk => ?_) (fun hk => ?_))
  · have hk2 := (idx_some hk (by omega)).2
    have ek := (idx_some hk (by omega)).1
    subst ek
    obtain ⟨y, hy⟩ : ∃ y, re.2.1[k]? = some y := ⟨_, List.getElem?_eq_getElem hk2⟩
    refine wp_step rfl rfl ?_
    refine wp_getg rfl h0 (by decide) rfl ?_
    iterate 2 refine wp_step rfl rfl ?_
    refine wp_c0 rfl rfl (by decide) rfl (recv_ok hr.1 rfl) rfl (q_find (by omega) hO hy (fun ck r hck hrs => ?_))
    cases ho : ldE b tot re y path with
    | none =>
      rw [ho] at hrs
      have e9 : r = -1 := hrs
      subst e9
      refine wp_step rfl rfl ?_
      iterate 2 refine wp_step rfl rfl ?_
      refine wp_icmp_f rfl rfl ?_
      iterate 2 refine wp_step rfl rfl ?_
      refine wp_iret rfl rfl rfl (by have h9 := hret k y hk hy; rw [ho] at h9; exact h9)
    | some o =>
      rw [ho] at hrs
      obtain ⟨nd, e9, hnd, hkd, hk13, hk13b, hw, hz⟩ := rsF_at hv hrs
      subst e9
      refine wp_step rfl rfl ?_
      iterate 2 refine wp_step rfl rfl ?_
      refine wp_icmp_t rfl (by show am_c2 .ne (nI nd) (-1) = true; exact decide_eq_true (nI_ne1 (by omega))) ?_
      refine wp_step rfl rfl ?_
      refine wp_getg rfl h0 (by decide) rfl ?_
      refine wp_getg rfl hr.1 (by decide) rfl ?_
      refine wp_getg rfl hv.1 (by decide) rfl ?_
      refine wp_step rfl rfl ?_
      refine wp_ald rfl (Or.inl ⟨rfl, rfl⟩) (by omega) hv.2.1 (am_in_nI (by omega) (by decide)) ?_
      rw [nI_clamp (by omega)]
      rw [hkd]
      refine wp_iret rfl rfl rfl (by have h9 := hret k y hk hy; rw [ho] at h9; exact h9)
  · exact hthr hk
theorem q_value {e path : Int32} (h : clR S rec sp cc mp b tot l A E re) (hret : ∀ k y o, idx e re.2.1.length = some k → re.2.1[k]? = some y → ldE b tot re y path = some o → Q (.inl (some (.long (wrE b tot re y o))), S)) (hthr : idx e re.2.1.length = none → Q (.inr OOB, am_thrown S)) (hnse : ∀ k y, idx e re.2.1.length = some k → re.2.1[k]? = some y → ldE b tot re y path = none → Q (.inr NSE, am_thrown S)) : ev X (d + 4) 79 [.ref 0, .int e, .int path] S Q := by
  refine ev_wp (L0 := [some (.ref 0), some (.int e), some (.int path), none]) (Nat.le_of_ble_eq_true rfl) rfl ?_
  obtain ⟨h0, hO, hrec, hrec9⟩ := h
  obtain ⟨hv, hr, hE, h60, hEG, hRF, hCF, hCA, h4, hn1, hCP, hl960⟩ := id hO
  iterate 2 refine wp_step rfl rfl ?_
  refine wp_c0 rfl rfl (by decide) rfl (recv_ok h0 rfl) rfl (q_reqEvent h0 hr.1 h60 (fun k hk => ?_) (fun hk => ?_))
  · have hk2 := (idx_some hk (by omega)).2
    have ek := (idx_some hk (by omega)).1
    subst ek
    obtain ⟨y, hy⟩ : ∃ y, re.2.1[k]? = some y := ⟨_, List.getElem?_eq_getElem hk2⟩
    refine wp_step rfl rfl ?_
    refine wp_getg rfl h0 (by decide) rfl ?_
    iterate 2 refine wp_step rfl rfl ?_
    refine wp_c0 rfl rfl (by decide) rfl (recv_ok hr.1 rfl) rfl (q_find (by omega) hO hy (fun ck r hck hrs => ?_))
    cases ho : ldE b tot re y path with
    | none =>
      rw [ho] at hrs
      have e9 : r = -1 := hrs
      subst e9
      refine wp_step rfl rfl ?_
      iterate 2 refine wp_step rfl rfl ?_
      refine wp_icmp_f rfl rfl ?_
      refine wp_thr rfl (by decide) (hnse k y hk hy ho)
    | some o =>
      rw [ho] at hrs
      obtain ⟨nd, e9, hnd, hkd, hk13, hk13b, hw, hz⟩ := rsF_at hv hrs
      subst e9
      have hwr : A.2.1 nd = wrE b tot re y o := by
        cases o with
        | none => exact hz rfl
        | some w => unfold wrE; rw [hck]; exact (hw w rfl).2
      refine wp_step rfl rfl ?_
      iterate 2 refine wp_step rfl rfl ?_
      refine wp_icmp_t rfl (by show am_c2 .ne (nI nd) (-1) = true; exact decide_eq_true (nI_ne1 (by omega))) ?_
      refine wp_step rfl rfl ?_
      refine wp_getg rfl h0 (by decide) rfl ?_
      refine wp_getg rfl hr.1 (by decide) rfl ?_
      refine wp_getg rfl hv.1 (by decide) rfl ?_
      refine wp_step rfl rfl ?_
      refine wp_lald rfl (by omega) hv.2.2.1 (am_in_nI (by omega) (by decide)) ?_
      rw [nI_clamp (by omega)]
      rw [hwr]
      refine wp_lret rfl rfl (hret k y o hk hy ho)
  · exact hthr hk
set_option maxHeartbeats 1000000 in
theorem q_letter {e path i : Int32} (h : clR S rec sp cc mp b tot l A E re) (hret : ∀ k y w j x, idx e re.2.1.length = some k → re.2.1[k]? = some y → isTx b (ldE b tot re y path) = some w → idx i (lsOf b tot w).length = some j → (lsOf b tot w)[j]? = some x → Q (.inl (some (.int (nI x))), S)) (hthr : idx e re.2.1.length = none → Q (.inr OOB, am_thrown S)) (hnse : ∀ k y, idx e re.2.1.length = some k → re.2.1[k]? = some y → isTx b (ldE b tot re y path) = none → Q (.inr NSE, am_thrown S)) (hiae : ∀ k y w, idx e re.2.1.length = some k → re.2.1[k]? = some y → isTx b (ldE b tot re y path) = some w → idx i (lsOf b tot w).length = none → Q (.inr IAE, am_thrown S)) : ev X (d + 4) 80 [.ref 0, .int e, .int path, .int i] S Q := by
  refine ev_wp (L0 := [some (.ref 0), some (.int e), some (.int path), some (.int i), none]) (Nat.le_of_ble_eq_true rfl) rfl ?_
  obtain ⟨h0, hO, hrec, hrec9⟩ := h
  obtain ⟨hv, hr, hE, h60, hEG, hRF, hCF, hCA, h4, hn1, hCP, hl960⟩ := id hO
  iterate 2 refine wp_step rfl rfl ?_
  refine wp_c0 rfl rfl (by decide) rfl (recv_ok h0 rfl) rfl (q_reqEvent h0 hr.1 h60 (fun k hk => ?_) (fun hk => ?_))
  · have hk2 := (idx_some hk (by omega)).2
    have ek := (idx_some hk (by omega)).1
    subst ek
    obtain ⟨y, hy⟩ : ∃ y, re.2.1[k]? = some y := ⟨_, List.getElem?_eq_getElem hk2⟩
    refine wp_step rfl rfl ?_
    refine wp_getg rfl h0 (by decide) rfl ?_
    iterate 2 refine wp_step rfl rfl ?_
    refine wp_c0 rfl rfl (by decide) rfl (recv_ok hr.1 rfl) rfl (q_find (by omega) hO hy (fun ck r hck hrs => ?_))
    cases ho : ldE b tot re y path with
    | none =>
      rw [ho] at hrs
      have e9 : r = -1 := hrs
      subst e9
      refine wp_step rfl rfl ?_
      iterate 2 refine wp_step rfl rfl ?_
      refine wp_icmp_t rfl rfl ?_
      refine wp_thr rfl (by decide) (hnse k y hk hy (by rw [ho]; rfl))
    | some o =>
      rw [ho] at hrs
      obtain ⟨nd, e9, hnd, hkd, hk13, hk13b, hw, hz⟩ := rsF_at hv hrs
      subst e9
      refine wp_step rfl rfl ?_
      iterate 2 refine wp_step rfl rfl ?_
      refine wp_icmp_f rfl (by show am_c2 .eq (nI nd) (-1) = false; exact decide_eq_false (nI_ne1 (by omega))) ?_
      refine wp_step rfl rfl ?_
      refine wp_getg rfl h0 (by decide) rfl ?_
      refine wp_getg rfl hr.1 (by decide) rfl ?_
      refine wp_getg rfl hv.1 (by decide) rfl ?_
      refine wp_step rfl rfl ?_
      refine wp_ald rfl (Or.inl ⟨rfl, rfl⟩) (by omega) hv.2.1 (am_in_nI (by omega) (by decide)) ?_
      rw [nI_clamp (by omega)]
      rw [hkd]
      refine wp_step rfl rfl ?_
      refine wp_icmp rfl (fun c1 => ?_) (fun c1 => ?_)
      · replace c1 := n_eq_t (a := kdR b (some o)) (b := 10) (by omega) (by omega) c1
        obtain ⟨w, ew⟩ : ∃ w, o = some w := by
          cases o with
          | none => exact absurd (show (1 : Nat) = 10 from c1) (by decide)
          | some w => exact ⟨w, rfl⟩
        subst ew
        have hk10 : kdOf b w = 10 := c1
        have htx : isTx b (ldE b tot re y path) = some w := by rw [ho]; unfold isTx; exact if_pos hk10
        obtain ⟨l1, g1, g2, g3, g4⟩ := nv_ls (hw w rfl).1 hk10
        refine wp_step rfl rfl ?_
        refine wp_if rfl (fun c2 => ?_) (fun c2 => ?_)
        · replace c2 := q_lt_t c2
          refine wp_thr rfl (by decide) (hiae k y w hk hy htx (idx_neg c2))
        · replace c2 := q_lt_f c2
          iterate 3 refine wp_step rfl rfl ?_
          refine wp_getg rfl h0 (by decide) rfl ?_
          refine wp_getg rfl hr.1 (by decide) rfl ?_
          refine wp_getg rfl hv.1 (by decide) rfl ?_
          refine wp_step rfl rfl ?_
          refine wp_lald rfl (by omega) hv.2.2.1 (am_in_nI (by omega) (by decide)) ?_
          rw [nI_clamp (by omega)]
          rw [g1]
          have hi0 : ∃ j, j < 2 ^ 31 ∧ i = nI j := by
            rcases tcase i (2 ^ 31 - 1) (by omega) with ⟨j, h8, h9⟩ | h9 | h9
            · exact ⟨j, by omega, h9⟩
            · rw [Int32.lt_iff_toInt_lt] at c2; exact absurd h9 c2
            · have := i.toInt_lt; omega
          obtain ⟨j, hj, ej⟩ := hi0
          subst ej
          rw [nI_l hj]
          refine wp_step rfl rfl ?_
          refine wp_if rfl (fun c3 => ?_) (fun c3 => ?_)
          · replace c3 := l_lt_t c3
            rw [lN_lt hj (by omega)] at c3
            obtain ⟨x, hx⟩ : ∃ x, (lsOf b tot w)[j]? = some x := ⟨_, List.getElem?_eq_getElem c3⟩
            refine wp_step rfl rfl ?_
            refine wp_getg rfl h0 (by decide) rfl ?_
            refine wp_getg rfl hr.1 (by decide) rfl ?_
            refine wp_getg rfl hv.1 (by decide) rfl ?_
            refine wp_step rfl rfl ?_
            refine wp_getg rfl h0 (by decide) rfl ?_
            refine wp_getg rfl hr.1 (by decide) rfl ?_
            refine wp_getg rfl hv.1 (by decide) rfl ?_
            refine wp_step rfl rfl ?_
            refine wp_ald rfl (Or.inl ⟨rfl, rfl⟩) (by omega) hv.2.2.2.1 (am_in_nI (by omega) (by decide)) ?_
            rw [nI_clamp (by omega)]
            rw [g2]
            iterate 2 refine wp_step rfl rfl ?_
            rw [nI_add]
            refine wp_ald rfl (Or.inr (Or.inr ⟨rfl, rfl⟩)) (by omega) hv.2.2.2.2.2.1 (am_in_nI (by omega) (by decide)) ?_
            rw [nI_clamp (by omega)]
            rw [g4 j x hx]
            refine wp_iret rfl rfl rfl (hret k y w j x hk hy htx (idx_nI c3 (by omega)) hx)
          · replace c3 := l_lt_f c3
            rw [lN_lt hj (by omega)] at c3
            refine wp_thr rfl (by decide) (hiae k y w hk hy htx (idx_ge (by omega) (by rw [nI_ltI hj (by omega)]; exact c3)))
      · replace c1 := n_eq_f (a := kdR b (some o)) (b := 10) (by omega) (by omega) c1
        refine wp_thr rfl (by decide) (hnse k y hk hy (by
          rw [ho]
          unfold isTx
          cases o with
          | none => rfl
          | some w => exact if_neg c1))
  · exact hthr hk
theorem q_nanos {k : Nat} {y : jEv} (hb : ∀ j, b j < 256) (hrec9 : rec < 393) (hO : reO S b tot rec l A E re) (hy : re.2.1[k]? = some y) (hq : Q (.inl (some (.long (nnE b re y))), S)) : ev X (d + 2) 37 [.ref rec, .int (nI k)] S Q := by
  refine ev_wp (L0 := [some (.ref rec), some (.int (nI k)), none, none, none, none, none]) (Nat.le_of_ble_eq_true rfl) rfl ?_
  obtain ⟨hv, hr, hE, h60, hEG, hRF, hCF, hCA, h4, hn1, hCP, hl960⟩ := id hO
  obtain ⟨ck, hck, hc4, hC, hn, hkd, hid, hid10, hF, hw4⟩ := reO_ev hO hy
  obtain ⟨f0, f1, f2, K, f3, f4⟩ := hF
  obtain ⟨F, hF1, hF2⟩ := hRF
  obtain ⟨a1, a2, a3⟩ := hE k y hy
  have hk60 := (List.getElem?_eq_some_iff.mp hy).1
  have hf : 0 < lN (w4 b (ck.1 + 16)) := lN_pos hw4 (fxN_lt hb (p := ck.1 + 16) 4)
  have hf0 : lN (w4 b (ck.1 + 16)) ≠ 0 := fun e9 => by rw [e9] at hf; exact absurd hf (by decide)
  refine wp_step rfl rfl ?_
  refine wp_getg rfl hr.1 (by decide) rfl ?_
  refine wp_step rfl rfl ?_
  refine wp_getg rfl hr.1 (by decide) rfl ?_
  refine wp_step rfl rfl ?_
  refine wp_ald rfl (Or.inl ⟨rfl, rfl⟩) (by omega) hr.2.1 (am_in_nI (by omega) (by decide)) ?_
  rw [nI_clamp (by omega)]
  rw [a1]
  refine wp_aald rfl (by omega) hF1 (by decide) (am_in_nI (by omega) (by decide)) ?_
  rw [nI_clamp (by omega)]
  rw [hF2 y.1 hc4]
  iterate 2 refine wp_step rfl rfl ?_
  refine wp_getg rfl hr.1 (by decide) rfl ?_
  refine wp_step rfl rfl ?_
  refine wp_lald rfl (by omega) hr.2.2.1 (am_in_nI (by omega) (by decide)) ?_
  rw [nI_clamp (by omega)]
  rw [a2]
  refine wp_step rfl rfl ?_
  refine wp_getg (v := (.long (lN (w4 b (ck.1 + 12))))) rfl f0 (by decide) rfl ?_
  iterate 2 refine wp_step rfl rfl ?_
  show wp X (d + 1) 37 24 [some (.ref rec), some (.int (nI k)), some (.ref (rec + 11 + 45 * y.1)), some (.long (y.2.2.1 - lN (w4 b (ck.1 + 12)))), none, none, none] [] S Q
  refine wp_step rfl rfl ?_
  refine wp_getg (v := (.long (lN (w4 b (ck.1 + 16))))) rfl f0 (by decide) rfl ?_
  refine wp_step rfl rfl ?_
  show wp X (d + 1) 37 30 [some (.ref rec), some (.int (nI k)), some (.ref (rec + 11 + 45 * y.1)), some (.long (y.2.2.1 - lN (w4 b (ck.1 + 12)))), none, some (.long (lN (w4 b (ck.1 + 16)))), none] [] S Q
  iterate 2 refine wp_step rfl rfl ?_
  refine wp_c0 rfl rfl (by decide) rfl (rfl) rfl (q_floorDiv hf ?_)
  iterate 4 refine wp_step rfl rfl ?_
  refine wp_c0 rfl rfl (by decide) rfl (rfl) rfl (q_floorMod hf ?_)
  iterate 3 refine wp_step rfl rfl ?_
  refine wp_ldiv rfl (hf0) ?_
  refine wp_step rfl rfl ?_
  refine wp_lret rfl rfl (by unfold nnE at hq; rw [hck] at hq; exact hq)
set_option maxHeartbeats 1000000 in
theorem q_event {e what : Int32} (hb : ∀ j, b j < 256) (h : clR S rec sp cc mp b tot l A E re)
    (h_0 : ∀ k y, idx e re.2.1.length = some k → re.2.1[k]? = some y → what = nI 0 → Q (.inl (some (.long (lN y.1))), S))
    (h_1 : ∀ k y, idx e re.2.1.length = some k → re.2.1[k]? = some y → what = nI 1 → Q (.inl (some (.long (wrE b tot re y (some (y.2.2.2.1, 0, y.2.2.2.2.1))))), S))
    (h_2 : ∀ k y, idx e re.2.1.length = some k → re.2.1[k]? = some y → what = nI 2 → Q (.inl (some (.long y.2.2.1)), S))
    (h_3 : ∀ k y, idx e re.2.1.length = some k → re.2.1[k]? = some y → what = nI 3 → Q (.inl (some (.long (nnE b re y))), S))
    (hthr : idx e re.2.1.length = none → Q (.inr OOB, am_thrown S)) (hiae : ∀ k, idx e re.2.1.length = some k → (what.toInt < 0 ∨ (3 : Int) < what.toInt) → Q (.inr IAE, am_thrown S)) : ev X (d + 3) 77 [.ref 0, .int e, .int what] S Q := by
  refine ev_wp (L0 := [some (.ref 0), some (.int e), some (.int what)]) (Nat.le_of_ble_eq_true rfl) rfl ?_
  obtain ⟨h0, hO, hrec, hrec9⟩ := h
  obtain ⟨hv, hr, hE, h60, hEG, hRF, hCF, hCA, h4, hn1, hCP, hl960⟩ := id hO
  iterate 2 refine wp_step rfl rfl ?_
  refine wp_c0 rfl rfl (by decide) rfl (recv_ok h0 rfl) rfl (q_reqEvent h0 hr.1 h60 (fun k hk => ?_) (fun hk => ?_))
  · have hk2 := (idx_some hk (by omega)).2
    have ek := (idx_some hk (by omega)).1
    subst ek
    obtain ⟨y, hy⟩ : ∃ y, re.2.1[k]? = some y := ⟨_, List.getElem?_eq_getElem hk2⟩
    obtain ⟨ck, hck, hc4, hC, hn, hkd, hid, hid10, hF, hw4⟩ := reO_ev hO hy
    obtain ⟨a1, a2, a3⟩ := hE k y hy
    have hn2 := (nv_kd hn).2.1
    have hkk : kdOf b (y.2.2.2.1, 0, y.2.2.2.2.1) ≠ 13 := by
      unfold kdOf
      dsimp only
      rw [if_neg (by omega), if_neg (by omega), if_neg (by omega), if_neg (by omega)]
      omega
    have hwr := nv_wr hn hkk
    rcases tcase what 3 (by decide) with ⟨q, h8, h9⟩ | h9
    · subst h9
      have hq4 : q = 0 ∨ q = 1 ∨ q = 2 ∨ q = 3 := by omega
      rcases hq4 with rfl | rfl | rfl | rfl
      · refine wp_step rfl rfl ?_
        refine wp_tsw (q := 36) rfl rfl ?_
        refine wp_step rfl rfl ?_
        refine wp_getg rfl h0 (by decide) rfl ?_
        refine wp_getg rfl hr.1 (by decide) rfl ?_
        refine wp_step rfl rfl ?_
        refine wp_ald rfl (Or.inl ⟨rfl, rfl⟩) (by omega) hr.2.1 (am_in_nI (by omega) (by decide)) ?_
        rw [nI_clamp (by omega)]
        rw [a1]
        refine wp_step rfl rfl ?_
        rw [nI_l (by omega)]
        refine wp_lret rfl rfl (h_0 k y hk hy rfl)
      · refine wp_step rfl rfl ?_
        refine wp_tsw (q := 47) rfl rfl ?_
        refine wp_step rfl rfl ?_
        refine wp_getg rfl h0 (by decide) rfl ?_
        refine wp_getg rfl hr.1 (by decide) rfl ?_
        refine wp_getg rfl hv.1 (by decide) rfl ?_
        refine wp_step rfl rfl ?_
        refine wp_getg rfl h0 (by decide) rfl ?_
        refine wp_getg rfl hr.1 (by decide) rfl ?_
        refine wp_step rfl rfl ?_
        refine wp_ald rfl (Or.inl ⟨rfl, rfl⟩) (by omega) hr.2.2.2 (am_in_nI (by omega) (by decide)) ?_
        rw [nI_clamp (by omega)]
        rw [a3]
        refine wp_lald rfl (by omega) hv.2.2.1 (am_in_nI (by omega) (by decide)) ?_
        rw [nI_clamp (by omega)]
        rw [hwr]
        refine wp_lret rfl rfl (by have h9 := h_1 k y hk hy rfl; unfold wrE at h9; rw [hck] at h9; exact h9)
      · refine wp_step rfl rfl ?_
        refine wp_tsw (q := 68) rfl rfl ?_
        refine wp_step rfl rfl ?_
        refine wp_getg rfl h0 (by decide) rfl ?_
        refine wp_getg rfl hr.1 (by decide) rfl ?_
        refine wp_step rfl rfl ?_
        refine wp_lald rfl (by omega) hr.2.2.1 (am_in_nI (by omega) (by decide)) ?_
        rw [nI_clamp (by omega)]
        rw [a2]
        refine wp_lret rfl rfl (h_2 k y hk hy rfl)
      · refine wp_step rfl rfl ?_
        refine wp_tsw (q := 78) rfl rfl ?_
        refine wp_step rfl rfl ?_
        refine wp_getg rfl h0 (by decide) rfl ?_
        refine wp_step rfl rfl ?_
        refine wp_c0 rfl rfl (by decide) rfl (recv_ok hr.1 rfl) rfl (q_nanos hb (by omega) hO hy ?_)
        refine wp_lret rfl rfl (h_3 k y hk hy rfl)
    · refine wp_step rfl rfl ?_
      refine wp_tswd (q := 87) rfl (h9) rfl ?_
      refine wp_thr rfl (by decide) (hiae k hk h9)
  · exact hthr hk
end QUERY2
