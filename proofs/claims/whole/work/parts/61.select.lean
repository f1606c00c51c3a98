/-! select -/
def hld (sg : Nat) (x y : Int64) : Bool := if sg = 61 then decide (x = y) else if sg = 35 then decide (x ≠ y) else if sg = 60 then decide (x < y) else decide (y < x)
def wrO (b : Nat → Nat) (tot : Nat) (re : jRe) (y : jEv) (o : Option (Option jV)) : Int64 := match o with
  | none => 0
  | some o => wrE b tot re y o
noncomputable def cmOK (b : Nat → Nat) (tot : Nat) (re : jRe) (y : jEv) (x : jC) : Bool := isNm b (ldE b tot re y x.1) && hld x.2.1 (wrO b tot re y (ldE b tot re y x.1)) x.2.2
def evN (b : Nat → Nat) (tot : Nat) (re : jRe) (y : jEv) : Int64 := wrE b tot re y (some (y.2.2.2.1, 0, y.2.2.2.2.1))
/-- an event passes -/
noncomputable def psE (b : Nat → Nat) (tot : Nat) (re : jRe) (nm : Nat) (cm : List jC) (y : jEv) : Bool := (decide (nm = 0) || decide (evN b tot re y = lN nm)) && cm.all (cmOK b tot re y)
noncomputable def psI (b : Nat → Nat) (tot : Nat) (re : jRe) (nm : Nat) (cm : List jC) (e : Nat) : Bool := match re.2.1[e]? with
  | none => false
  | some y => psE b tot re nm cm y
def chD (ch : Nat → Int32) (xs : List Nat) : Prop := ∀ (i e : Nat), xs[i]? = some e → ch i = nI e
section SELECT
variable {X : Nat × (Nat → Int32)} {d k pc : Nat} {L : am_L} {st : List Value} {Q : am_R → Prop} {S : am_S} {rec sp tot l : Nat} {cc mp : Int32} {b : Nat → Nat} {A : jVA} {E : jEA} {re : jRe}
theorem wp_lsw {dflt : Int} {ps : Array (Int × Int)} {len a c w q : Nat} {cst : Int} {x : Int32} (hh : am_P k pc = some (.lookupswitch dflt ps, len, a, c, w, cst)) (hq : am_sw (.lookupswitch dflt ps) pc x = q) (h : wp X d k q L st S Q) : wp X d k pc L (.int x :: st) S Q :=
  wp_step hh (by simp only [am_step, hq]) h
theorem q_append {cs : List Nat} {ty : Nat → Int32} {s : jF} {P : jFA} {c : Nat} (h : flS S (nI cs.length) s P) (h40 : cs.length ≤ 40) (ht : am_get S 394 = some (cA 40 ty)) (hc : c < 65536)
    (hno : (cs.length = 40 ∨ c < 32 ∨ 126 < c) → Q (.inl (some (.int 0)), S))
    (hyes : ¬ (cs.length = 40 ∨ c < 32 ∨ 126 < c) → ∀ T, fr [393, 394] S T → flS T (nI (cs.length + 1)) s P → am_get T 394 = some (cA 40 (upd ty cs.length (nI c))) → Q (.inl (some (.int 1)), T)) : ev X (d + 1) 18 [.ref 393, .int (nI c)] S Q := by
  refine ev_wp (L0 := [some (.ref 393), some (.int (nI c))]) (Nat.le_of_ble_eq_true rfl) rfl ?_
  refine wp_step rfl rfl ?_
  refine wp_getg (v := (.int (nI cs.length))) rfl h.1 (by decide) rfl ?_
  have bad : (cs.length = 40 ∨ c < 32 ∨ 126 < c) → wp X d 18 21 [some (.ref 393), some (.int (nI c))] [] S Q := by
    intro hb
    refine wp_step rfl rfl ?_
    refine wp_iret rfl rfl rfl (hno hb)
  refine wp_step rfl rfl ?_
  refine wp_icmp rfl (fun c0 => ?_) (fun c0 => ?_)
  · replace c0 := n_eq_t (a := cs.length) (b := 40) (by omega) (by omega) c0
    exact bad (Or.inl c0)
  · replace c0 := n_eq_f (a := cs.length) (b := 40) (by omega) (by omega) c0
    iterate 2 refine wp_step rfl rfl ?_
    refine wp_icmp rfl (fun c1 => ?_) (fun c1 => ?_)
    · replace c1 := n_lt_t (a := c) (b := 32) (by omega) (by omega) c1
      exact bad (Or.inr (Or.inl c1))
    · replace c1 := n_lt_f (a := c) (b := 32) (by omega) (by omega) c1
      iterate 2 refine wp_step rfl rfl ?_
      refine wp_icmp rfl (fun c2 => ?_) (fun c2 => ?_)
      · replace c2 := n_le_t (a := c) (b := 126) (by omega) (by omega) c2
        refine wp_step rfl rfl ?_
        refine wp_getg rfl h.1 (by decide) rfl ?_
        refine wp_step rfl rfl ?_
        refine wp_getg (v := (.int (nI cs.length))) rfl h.1 (by decide) rfl ?_
        refine wp_step rfl rfl ?_
        refine wp_ast rfl (Or.inr (Or.inr ⟨rfl, rfl⟩)) ht (am_in_nI (by omega) (by decide)) ?_
        rw [nI_clamp (by omega)]
        rw [show vp_nar (am_ty 3) (nI c) = nI c from Value.int.inj (pk_charN (by omega)).1]
        have h1 : flS (am_upd S 394 (cA 40 (upd ty cs.length (nI c)))) (nI cs.length) s P := flS_fr h (fr_up (js := [394]) (by simp)) (fun j hj => by simp at hj; omega)
        have ht1 : am_get (am_upd S 394 (cA 40 (upd ty cs.length (nI c)))) 394 = some (cA 40 (upd ty cs.length (nI c))) := am_get_self ht
        have hf1 : fr [393, 394] S (am_upd S 394 (cA 40 (upd ty cs.length (nI c)))) := fr_up (by simp)
        generalize am_upd S 394 (cA 40 (upd ty cs.length (nI c))) = S1 at h1 ht1 hf1 ⊢
        iterate 2 refine wp_step rfl rfl ?_
        refine wp_getg (v := (.int (nI cs.length))) rfl h1.1 (by decide) rfl ?_
        iterate 2 refine wp_step rfl rfl ?_
        rw [show nI cs.length + Int32.ofInt 1 = nI (cs.length + 1) from nI_add cs.length 1]
        refine wp_putg rfl h1.1 (by decide) rfl rfl ?_
        rw [flG_1]
        refine wp_step rfl rfl ?_
        refine wp_iret rfl rfl rfl (hyes (by omega) _ (fr_upd hf1 (by simp)) (flS_0 (s' := s) h1 rfl rfl) (by rw [am_get_ne (by decide)]; exact ht1))
      · replace c2 := n_le_f (a := c) (b := 126) (by omega) (by omega) c2
        exact bad (Or.inr (Or.inr c2))
theorem q_type {cs : List Nat} {ty : Nat → Int32} {s : jF} {P : jFA} {c : Nat} (h0 : am_get S 0 = some (frC rec sp cc mp)) (h : flS S (nI cs.length) s P) (h40 : cs.length ≤ 40) (ht : am_get S 394 = some (cA 40 ty)) (hc : c < 65536)
    (hno : (cs.length = 40 ∨ c < 32 ∨ 126 < c) → Q (.inl (some (.int 0)), S))
    (hyes : ¬ (cs.length = 40 ∨ c < 32 ∨ 126 < c) → ∀ T, fr [393, 394] S T → flS T (nI (cs.length + 1)) s P → am_get T 394 = some (cA 40 (upd ty cs.length (nI c))) → Q (.inl (some (.int 1)), T)) : ev X (d + 2) 81 [.ref 0, .int (nI c)] S Q := by
  refine ev_wp (L0 := [some (.ref 0), some (.int (nI c))]) (Nat.le_of_ble_eq_true rfl) rfl ?_
  refine wp_step rfl rfl ?_
  refine wp_getg rfl h0 (by decide) rfl ?_
  refine wp_step rfl rfl ?_
  refine wp_c0 rfl rfl (by decide) rfl (recv_ok h.1 rfl) rfl (q_append h h40 ht hc (fun g => ?_) (fun g T hf h1 ht1 => ?_))
  · refine wp_iret rfl rfl rfl (hno g)
  · refine wp_iret rfl rfl rfl (hyes g T hf h1 ht1)
theorem q_isNum {τ : jTT} {r : Int32} {o : Option (Option jV)} {v n0 l0 : Nat} (hv : vS S v n0 l0 A) (hv9 : v < 800000) (h : rsF τ b tot A r o) (hq : Q (.inl (some (.int (bI (isNm b o)))), S)) : ev X (d + 1) 70 [.ref v, .int r] S Q := by
  refine ev_wp (L0 := [some (.ref v), some (.int r)]) (Nat.le_of_ble_eq_true rfl) rfl ?_
  cases o with
  | none =>
    have e9 : r = -1 := h
    subst e9
    iterate 2 refine wp_step rfl rfl ?_
    refine wp_icmp_t rfl rfl ?_
    refine wp_step rfl rfl ?_
    refine wp_iret rfl rfl rfl hq
  | some o =>
    obtain ⟨nd, e9, hnd, hkd, hk13, hk13b, hw, hz⟩ := rsF_at hv h
    subst e9
    iterate 2 refine wp_step rfl rfl ?_
    refine wp_icmp_f rfl (by show am_c2 .eq (nI nd) (-1) = false; exact decide_eq_false (nI_ne1 (by omega))) ?_
    refine wp_step rfl rfl ?_
    refine wp_getg rfl hv.1 (by decide) rfl ?_
    refine wp_step rfl rfl ?_
    refine wp_ald rfl (Or.inl ⟨rfl, rfl⟩) (by omega) hv.2.1 (am_in_nI (by omega) (by decide)) ?_
    rw [nI_clamp (by omega)]
    rw [hkd]
    refine wp_step rfl rfl ?_
    refine wp_icmp rfl (fun c0 => ?_) (fun c0 => ?_)
    · replace c0 := n_lt_t (a := kdR b (some o)) (b := 2) (by omega) (by omega) c0
      refine wp_step rfl rfl ?_
      refine wp_iret rfl rfl rfl (by unfold isNm at hq; rw [decide_eq_false (by omega)] at hq; exact hq)
    · replace c0 := n_lt_f (a := kdR b (some o)) (b := 2) (by omega) (by omega) c0
      refine wp_step rfl rfl ?_
      refine wp_getg rfl hv.1 (by decide) rfl ?_
      refine wp_step rfl rfl ?_
      refine wp_ald rfl (Or.inl ⟨rfl, rfl⟩) (by omega) hv.2.1 (am_in_nI (by omega) (by decide)) ?_
      rw [nI_clamp (by omega)]
      rw [hkd]
      refine wp_step rfl rfl ?_
      refine wp_icmp rfl (fun c1 => ?_) (fun c1 => ?_)
      · replace c1 := n_gt_t (a := kdR b (some o)) (b := 7) (by omega) (by omega) c1
        refine wp_step rfl rfl ?_
        refine wp_iret rfl rfl rfl (by unfold isNm at hq; rw [decide_eq_false (by omega)] at hq; exact hq)
      · replace c1 := n_gt_f (a := kdR b (some o)) (b := 7) (by omega) (by omega) c1
        iterate 2 refine wp_step rfl rfl ?_
        refine wp_iret rfl rfl rfl (by unfold isNm at hq; rw [decide_eq_true (by omega)] at hq; exact hq)
theorem q_holds {sg : Nat} {x y : Int64} (hs : sg < 65536) (hq : Q (.inl (some (.int (bI (hld sg x y)))), S)) : ev X (d + 1) 28 [.ref 393, .int (nI sg), .long x, .long y] S Q := by
  refine ev_wp (L0 := [some (.ref 393), some (.int (nI sg)), some (.long x), none, some (.long y), none]) (Nat.le_of_ble_eq_true rfl) rfl ?_
  refine wp_step rfl rfl ?_
  unfold hld at hq
  by_cases g1 : sg = 61
  · subst g1
    refine wp_lsw (q := 36) rfl rfl ?_
    rw [if_pos rfl] at hq
    iterate 3 refine wp_step rfl rfl ?_
    refine wp_if rfl (fun c0 => ?_) (fun c0 => ?_)
    · replace c0 := l_ne_t c0
      refine wp_step rfl rfl ?_
      refine wp_iret rfl rfl rfl (by rw [decide_eq_false c0] at hq; exact hq)
    · replace c0 := l_ne_f c0
      iterate 2 refine wp_step rfl rfl ?_
      refine wp_iret rfl rfl rfl (by rw [decide_eq_true c0] at hq; exact hq)
  · rw [if_neg g1] at hq
    by_cases g2 : sg = 35
    · subst g2
      refine wp_lsw (q := 49) rfl rfl ?_
      rw [if_pos rfl] at hq
      iterate 3 refine wp_step rfl rfl ?_
      refine wp_if rfl (fun c0 => ?_) (fun c0 => ?_)
      · replace c0 := l_eq_t c0
        refine wp_step rfl rfl ?_
        refine wp_iret rfl rfl rfl (by rw [decide_eq_false (fun h9 => h9 c0)] at hq; exact hq)
      · replace c0 := l_eq_f c0
        iterate 2 refine wp_step rfl rfl ?_
        refine wp_iret rfl rfl rfl (by rw [decide_eq_true c0] at hq; exact hq)
    · rw [if_neg g2] at hq
      by_cases g3 : sg = 60
      · subst g3
        refine wp_lsw (q := 62) rfl rfl ?_
        rw [if_pos rfl] at hq
        iterate 3 refine wp_step rfl rfl ?_
        refine wp_if rfl (fun c0 => ?_) (fun c0 => ?_)
        · replace c0 := l_ge_t c0
          refine wp_step rfl rfl ?_
          refine wp_iret rfl rfl rfl (by rw [decide_eq_false (Int64.not_lt.mpr c0)] at hq; exact hq)
        · replace c0 := l_ge_f c0
          iterate 2 refine wp_step rfl rfl ?_
          refine wp_iret rfl rfl rfl (by rw [decide_eq_true (Int64.not_le.mp c0)] at hq; exact hq)
      · rw [if_neg g3] at hq
        have ht : (nI sg).toInt = (sg : Int) := nI_toInt (by omega)
        refine wp_lsw (q := 75) rfl (by show ((1 : Int) + Op.lookupswitch.offset [(35, 48), (60, 61), (61, 35)] 74 (nI sg).toInt).toNat = 75; rw [ht, Op.lookupswitch.offset_cons, if_neg (by omega), Op.lookupswitch.offset_cons, if_neg (by omega), Op.lookupswitch.offset_cons, if_neg (by omega), Op.lookupswitch.offset_nil]; rfl) ?_
        iterate 3 refine wp_step rfl rfl ?_
        refine wp_if rfl (fun c0 => ?_) (fun c0 => ?_)
        · replace c0 := l_le_t c0
          refine wp_step rfl rfl ?_
          refine wp_iret rfl rfl rfl (by rw [decide_eq_false (Int64.not_lt.mpr c0)] at hq; exact hq)
        · replace c0 := l_le_f c0
          iterate 2 refine wp_step rfl rfl ?_
          refine wp_iret rfl rfl rfl (by rw [decide_eq_true (Int64.not_le.mp c0)] at hq; exact hq)
set_option maxHeartbeats 1000000 in
theorem ps_loop {ln : Int32} {s : jF} {P : jFA} {e : Nat} {y : jEv} (hrec9 : rec < 393) (hf : flS S ln s P) (h11 : s.2.2.1.length ≤ 11) (hsg : ∀ x, x ∈ s.2.2.1 → x.2.1 < 65536) (hO : reO S b tot rec l A E re) (hr : reS S rec re.2.2.length re.2.1.length E) (hv : vS S (rec + 2) re.1 l A) (hy : re.2.1[e]? = some y) : ∀ (m i : Nat) (z : Option Value), i + m = s.2.2.1.length → Q (.inl (some (.int (bI ((s.2.2.1.reverse.drop i).all (cmOK b tot re y))))), S) → wp X (d + 3) 27 37 [some (.ref 393), some (.ref rec), some (.int (nI e)), some (.ref (rec + 2)), some (.int (nI i)), z] [] S Q := by
  intro m
  induction m with
  | zero =>
    intro i z hi hq
    iterate 2 refine wp_step rfl rfl ?_
    refine wp_getg (v := (.int (nI s.2.2.1.length))) rfl hf.1 (by decide) rfl ?_
    refine wp_icmp rfl (fun c0 => ?_) (fun c0 => ?_)
    · replace c0 := n_ge_t (a := i) (b := s.2.2.1.length) (by omega) (by omega) c0
      refine wp_step rfl rfl ?_
      refine wp_iret rfl rfl rfl (by rw [show s.2.2.1.reverse.drop i = [] from by rw [List.drop_eq_nil_iff, List.length_reverse]; omega] at hq; exact hq)
    · replace c0 := n_ge_f (a := i) (b := s.2.2.1.length) (by omega) (by omega) c0
      omega
  | succ m ih =>
    intro i z hi hq
    iterate 2 refine wp_step rfl rfl ?_
    refine wp_getg (v := (.int (nI s.2.2.1.length))) rfl hf.1 (by decide) rfl ?_
    refine wp_icmp rfl (fun c0 => ?_) (fun c0 => ?_)
    · replace c0 := n_ge_t (a := i) (b := s.2.2.1.length) (by omega) (by omega) c0
      omega
    · replace c0 := n_ge_f (a := i) (b := s.2.2.1.length) (by omega) (by omega) c0
      have hil : i < s.2.2.1.reverse.length := by rw [List.length_reverse]; exact c0
      obtain ⟨x, hx⟩ : ∃ x, s.2.2.1.reverse[i]? = some x := ⟨_, List.getElem?_eq_getElem hil⟩
      obtain ⟨a1, a2, a3⟩ := flD_at hf.2.2.2.2 i x hx
      have hdr : s.2.2.1.reverse.drop i = x :: s.2.2.1.reverse.drop (i + 1) := by
        rw [List.drop_eq_getElem_cons hil]
        rw [List.getElem?_eq_getElem hil] at hx
        cases hx
        rfl
      have hxs := hsg x (List.mem_reverse.mp (mem_at hx))
      rw [hdr, List.all_cons] at hq
      have no : cmOK b tot re y x = false → ∀ z, wp X (d + 3) 27 97 [some (.ref 393), some (.ref rec), some (.int (nI e)), some (.ref (rec + 2)), some (.int (nI i)), z] [] S Q := by
        intro h9 z
        rw [h9, Bool.false_and] at hq
        refine wp_step rfl rfl ?_
        refine wp_iret rfl rfl rfl hq
      iterate 3 refine wp_step rfl rfl ?_
      refine wp_getg rfl hf.1 (by decide) rfl ?_
      refine wp_step rfl rfl ?_
      refine wp_ald rfl (Or.inl ⟨rfl, rfl⟩) (by decide) hf.2.1 (am_in_nI (by omega) (by decide)) ?_
      rw [nI_clamp (by omega)]
      rw [a1]
      refine wp_c0 rfl rfl (by decide) rfl (recv_ok hr.1 rfl) rfl (q_find (by omega) hO hy (fun ck r hck hrs => ?_))
      refine wp_step rfl rfl ?_
      show wp X (d + 3) 27 60 [some (.ref 393), some (.ref rec), some (.int (nI e)), some (.ref (rec + 2)), some (.int (nI i)), some (.int r)] [] S Q
      iterate 2 refine wp_step rfl rfl ?_
      refine wp_c0 rfl rfl (by decide) rfl (recv_ok hv.1 rfl) rfl (q_isNum hv (by omega) hrs ?_)
      cases hnm : isNm b (ldE b tot re y x.1) with
      | false =>
        refine wp_if_t rfl rfl ?_
        exact no (by unfold cmOK; rw [hnm]; rfl) _
      | true =>
        refine wp_if_f rfl rfl ?_
        obtain ⟨o, ho⟩ : ∃ o, ldE b tot re y x.1 = some o := by
          cases ho : ldE b tot re y x.1 with
          | none => rw [ho] at hnm; exact absurd (show decide ((2 : Nat) ≤ 0 ∧ (0 : Nat) ≤ 7) = true from hnm) (by decide)
          | some o => exact ⟨o, rfl⟩
        have hrs2 := hrs
        rw [ho] at hrs2
        obtain ⟨nd, e9, hnd, hkd, hk13, hk13b, hw, hz⟩ := rsF_at hv hrs2
        subst e9
        have hwr : A.2.1 nd = wrO b tot re y (ldE b tot re y x.1) := by
          rw [ho]
          cases o with
          | none => exact hz rfl
          | some w => unfold wrO wrE; dsimp only; rw [hck]; exact (hw w rfl).2
        iterate 2 refine wp_step rfl rfl ?_
        refine wp_getg rfl hf.1 (by decide) rfl ?_
        refine wp_step rfl rfl ?_
        refine wp_ald rfl (Or.inr (Or.inr ⟨rfl, rfl⟩)) (by decide) hf.2.2.1 (am_in_nI (by omega) (by decide)) ?_
        rw [nI_clamp (by omega)]
        rw [a2]
        refine wp_step rfl rfl ?_
        refine wp_getg rfl hv.1 (by decide) rfl ?_
        refine wp_step rfl rfl ?_
        refine wp_lald rfl (by omega) hv.2.2.1 (am_in_nI (by omega) (by decide)) ?_
        rw [nI_clamp (by omega)]
        rw [hwr]
        refine wp_step rfl rfl ?_
        refine wp_getg rfl hf.1 (by decide) rfl ?_
        refine wp_step rfl rfl ?_
        refine wp_lald rfl (by decide) hf.2.2.2.1 (am_in_nI (by omega) (by decide)) ?_
        rw [nI_clamp (by omega)]
        rw [a3]
        refine wp_c0 rfl rfl (by decide) rfl (recv_ok hf.1 rfl) rfl (q_holds hxs ?_)
        cases hh : hld x.2.1 (wrO b tot re y (ldE b tot re y x.1)) x.2.2 with
        | false =>
          refine wp_if_f rfl rfl ?_
          exact no (by unfold cmOK; rw [hnm, hh]; rfl) _
        | true =>
          refine wp_if_t rfl rfl ?_
          iterate 2 refine wp_step rfl rfl ?_
          rw [show nI i + Int32.ofInt 1 = nI (i + 1) from nI_add i 1]
          exact ih (i + 1) _ (by omega) (by rw [show cmOK b tot re y x = true from by unfold cmOK; rw [hnm, hh]; rfl, Bool.true_and] at hq; exact hq)
set_option maxHeartbeats 1000000 in
theorem q_passes {ln : Int32} {s : jF} {P : jFA} {e : Nat} {y : jEv} (hrec9 : rec < 393) (hf : flS S ln s P) (h11 : s.2.2.1.length ≤ 11) (hnm : s.2.1 < 65536) (hsg : ∀ x, x ∈ s.2.2.1 → x.2.1 < 65536) (hO : reO S b tot rec l A E re) (hy : re.2.1[e]? = some y) (hq : Q (.inl (some (.int (bI (psE b tot re s.2.1 s.2.2.1.reverse y)))), S)) : ev X (d + 4) 27 [.ref 393, .ref rec, .int (nI e)] S Q := by
  refine ev_wp (L0 := [some (.ref 393), some (.ref rec), some (.int (nI e)), none, none, none]) (Nat.le_of_ble_eq_true rfl) rfl ?_
  obtain ⟨hv, hr, hE, h60, hEG, hRF, hCF, hCA, h4, hn1, hCP, hl960⟩ := id hO
  obtain ⟨ck, hck, hc4, hC, hn, hkd, hid, hid10, hF, hw4⟩ := reO_ev hO hy
  obtain ⟨a1, a2, a3⟩ := hE e y hy
  have he60 := (List.getElem?_eq_some_iff.mp hy).1
  have hn2 := (nv_kd hn).2.1
  have hkk : kdOf b (y.2.2.2.1, 0, y.2.2.2.2.1) ≠ 13 := by
    unfold kdOf
    dsimp only
    rw [if_neg (by omega), if_neg (by omega), if_neg (by omega), if_neg (by omega)]
    omega
  have hwr : A.2.1 y.2.2.2.2.2 = evN b tot re y := by
    unfold evN wrE
    dsimp only
    rw [hck]
    exact nv_wr hn hkk
  refine wp_step rfl rfl ?_
  refine wp_getg rfl hr.1 (by decide) rfl ?_
  refine wp_step rfl rfl ?_
  show wp X (d + 3) 27 5 [some (.ref 393), some (.ref rec), some (.int (nI e)), some (.ref (rec + 2)), none, none] [] S Q
  have K : (decide (s.2.1 = 0) || decide (evN b tot re y = lN s.2.1)) = true → wp X (d + 3) 27 34 [some (.ref 393), some (.ref rec), some (.int (nI e)), some (.ref (rec + 2)), none, none] [] S Q := by
    intro hk
    iterate 2 refine wp_step rfl rfl ?_
    show wp X (d + 3) 27 37 [some (.ref 393), some (.ref rec), some (.int (nI e)), some (.ref (rec + 2)), some (.int (nI 0)), none] [] S Q
    refine ps_loop hrec9 hf h11 hsg hO hr hv hy s.2.2.1.length 0 none (by omega) ?_
    unfold psE at hq
    rw [hk, Bool.true_and] at hq
    rw [List.drop_zero]
    exact hq
  refine wp_step rfl rfl ?_
  refine wp_getg (v := (.int (nI s.2.1))) rfl hf.1 (by decide) rfl ?_
  refine wp_if rfl (fun c0 => ?_) (fun c0 => ?_)
  · replace c0 := z_eq_t (a := s.2.1) (by omega) c0
    exact K (by rw [decide_eq_true c0]; rfl)
  · replace c0 := z_eq_f (a := s.2.1) (by omega) c0
    refine wp_step rfl rfl ?_
    refine wp_getg rfl hv.1 (by decide) rfl ?_
    refine wp_step rfl rfl ?_
    refine wp_getg rfl hr.1 (by decide) rfl ?_
    refine wp_step rfl rfl ?_
    refine wp_ald rfl (Or.inl ⟨rfl, rfl⟩) (by omega) hr.2.2.2 (am_in_nI (by omega) (by decide)) ?_
    rw [nI_clamp (by omega)]
    rw [a3]
    refine wp_lald rfl (by omega) hv.2.2.1 (am_in_nI (by omega) (by decide)) ?_
    rw [nI_clamp (by omega)]
    rw [hwr]
    refine wp_step rfl rfl ?_
    refine wp_getg (v := (.int (nI s.2.1))) rfl hf.1 (by decide) rfl ?_
    refine wp_step rfl rfl ?_
    rw [nI_l (by omega)]
    refine wp_step rfl rfl ?_
    refine wp_if rfl (fun c1 => ?_) (fun c1 => ?_)
    · replace c1 := l_eq_t c1
      exact K (by rw [decide_eq_true c1]; simp)
    · replace c1 := l_eq_f c1
      refine wp_step rfl rfl ?_
      refine wp_iret rfl rfl rfl (by unfold psE at hq; rw [decide_eq_false c0, decide_eq_false c1] at hq; exact hq)
end SELECT
