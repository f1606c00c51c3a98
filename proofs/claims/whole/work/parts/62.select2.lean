/-! FlightReader.select -/
def fG (s : jF) : Prop := s.2.1 < 65536 ∧ ∀ x, x ∈ s.2.2.1 → x.2.1 < 65536
theorem fst1_G {s : jF} {c : Nat} (h : fG s) (hc : c < 65536) : fG (fst1 s c) := by
  have a1 : fG (tkStep s c) := by
    unfold tkStep
    split
    · exact h
    · exact h
  have a2 : fG (tkSign s c) := by
    unfold tkSign
    split
    · refine ⟨h.1, fun x hx => ?_⟩
      rcases List.mem_cons.mp hx with g | g
      · subst g; exact hc
      · exact h.2 x g
    · exact h
  have a3 : fG (tkDigit s c) := by
    unfold tkDigit
    split
    · exact h
    · rename_i x cs e
      split
      · refine ⟨h.1, fun z hz => ?_⟩
        rcases List.mem_cons.mp hz with g | g
        · subst g; exact h.2 x (by rw [e]; simp)
        · exact h.2 z (by rw [e]; exact List.mem_cons_of_mem _ g)
      · exact h
  unfold fst1
  repeat' split
  all_goals first | exact h | exact a1 | exact a2 | exact a3 | exact ⟨hc, h.2⟩
theorem frun_G : ∀ {cs : List Nat} {k : Nat} {s s' : jF}, (∀ c, c ∈ cs → c < 65536) → fG s → fI s k → frun cs k s = .inr s' → fG s' ∧ s'.2.2.1.length ≤ 11 := by
  intro cs
  induction cs with
  | nil => intro k s s' _ h hI e; cases e; exact ⟨h, hI.2.1⟩
  | cons c cs ih =>
    intro k s s' hc h hI e
    unfold frun at e
    split at e
    · cases e
    · rename_i g
      exact ih (fun c' h' => hc c' (List.mem_cons_of_mem _ h')) (fst1_G h (hc c (by simp))) (fst1_inv hI g) e
theorem fres_ok {cs : List Nat} {nm : Nat} {cm : List jC} (hc : ∀ c, c ∈ cs → c < 65536) (h : fres cs = .inr (nm, cm)) : nm < 65536 ∧ cm.length ≤ 11 ∧ ∀ x, x ∈ cm → x.2.1 < 65536 := by
  unfold fres at h
  split at h
  · cases h
  · rename_i s e
    split at h
    · obtain ⟨g1, g2⟩ := frun_G hc ⟨by decide, fun x hx => by cases hx⟩ ⟨by decide, by decide, by decide, Nat.zero_le _⟩ e
      cases h
      exact ⟨g1.1, by rw [List.length_reverse]; exact g2, fun x hx => g1.2 x (List.mem_reverse.mp hx)⟩
    · cases h
section SELECT2
variable {X : Nat × (Nat → Int32)} {d : Nat} {Q : am_R → Prop} {rec sp tot l : Nat} {cc mp : Int32} {b : Nat → Nat} {A : jVA} {E : jEA} {re : jRe}
set_option maxHeartbeats 1000000 in
theorem sl_loop {ln fr0 : Int32} {s : jF} {P : jFA} {xs : List Nat} (hrec9 : rec + 191 ≤ 393) (h11 : s.2.2.1.length ≤ 11) (hnm : s.2.1 < 65536) (hsg : ∀ x, x ∈ s.2.2.1 → x.2.1 < 65536) (hx60 : xs.length ≤ 60) (hxe : ∀ e, e ∈ xs → e < re.2.1.length) : ∀ (m i : Nat) (K : List Nat) (ch : Nat → Int32) (S : am_S), i + m = xs.length → K.length ≤ i → chD ch K → (∀ j e, i ≤ j → xs[j]? = some e → ch j = nI e) → am_get S 0 = some (frC rec sp (nI xs.length) mp) → flS S ln s P → reO S b tot rec l A E re → am_get S 398 = some (iA 60 ch) →
    (∀ K' ch' T, K' = K ++ (xs.drop i).filter (psI b tot re s.2.1 s.2.2.1.reverse) → fr [398] S T → am_get T 398 = some (iA 60 ch') → chD ch' K' → wp X (d + 4) 82 87 [some (.ref 0), some (.int fr0), some (.int (nI K'.length)), some (.int (nI xs.length))] [] T Q) →
    wp X (d + 4) 82 38 [some (.ref 0), some (.int fr0), some (.int (nI K.length)), some (.int (nI i))] [] S Q := by
  intro m
  induction m with
  | zero =>
    intro i K ch S hi hKi hK hR h0 hf hO hch hq
    have e9 : i = xs.length := by omega
    subst e9
    iterate 2 refine wp_step rfl rfl ?_
    refine wp_getg rfl h0 (by decide) rfl ?_
    refine wp_icmp rfl (fun c0 => ?_) (fun c0 => ?_)
    · refine hq K ch S (by rw [List.drop_length]; simp) (fr_refl _ _) hch hK
    · replace c0 := n_ge_f (a := xs.length) (b := xs.length) (by omega) (by omega) c0
      omega
  | succ m ih =>
    intro i K ch S hi hKi hK hR h0 hf hO hch hq
    iterate 2 refine wp_step rfl rfl ?_
    refine wp_getg rfl h0 (by decide) rfl ?_
    refine wp_icmp rfl (fun c0 => ?_) (fun c0 => ?_)
    · replace c0 := n_ge_t (a := i) (b := xs.length) (by omega) (by omega) c0
      omega
    · replace c0 := n_ge_f (a := i) (b := xs.length) (by omega) (by omega) c0
      obtain ⟨e, he⟩ : ∃ e, xs[i]? = some e := ⟨_, List.getElem?_eq_getElem c0⟩
      have hel := hxe e (mem_at he)
      obtain ⟨y, hy⟩ : ∃ y, re.2.1[e]? = some y := ⟨_, List.getElem?_eq_getElem hel⟩
      have hci := hR i e (Nat.le_refl _) he
      have hdr : xs.drop i = e :: xs.drop (i + 1) := by
        rw [List.drop_eq_getElem_cons c0]
        rw [List.getElem?_eq_getElem c0] at he
        cases he
        rfl
      have hpsi : psI b tot re s.2.1 s.2.2.1.reverse e = psE b tot re s.2.1 s.2.2.1.reverse y := by unfold psI; rw [hy]
      refine wp_step rfl rfl ?_
      refine wp_getg rfl h0 (by decide) rfl ?_
      refine wp_step rfl rfl ?_
      refine wp_getg rfl h0 (by decide) rfl ?_
      refine wp_step rfl rfl ?_
      refine wp_getg rfl h0 (by decide) rfl ?_
      refine wp_step rfl rfl ?_
      refine wp_ald rfl (Or.inl ⟨rfl, rfl⟩) (by decide) hch (am_in_nI (by omega) (by decide)) ?_
      rw [nI_clamp (by omega)]
      rw [hci]
      refine wp_c0 rfl rfl (by decide) rfl (recv_ok hf.1 rfl) rfl (q_passes (by omega) hf h11 hnm hsg hO hy ?_)
      rw [← hpsi]
      cases hp : psI b tot re s.2.1 s.2.2.1.reverse e with
      | false =>
        refine wp_if_t rfl rfl ?_
        iterate 2 refine wp_step rfl rfl ?_
        rw [show nI i + Int32.ofInt 1 = nI (i + 1) from nI_add i 1]
        exact ih (i + 1) K ch S (by omega) (by omega) hK (fun j e' hj he' => hR j e' (by omega) he') h0 hf hO hch (fun K2 ch2 T e2 hf2 hch2 hK2 => hq K2 ch2 T (by rw [hdr, List.filter_cons, if_neg (by rw [hp]; decide)]; exact e2) hf2 hch2 hK2)
      | true =>
        refine wp_if_f rfl rfl ?_
        refine wp_step rfl rfl ?_
        refine wp_getg rfl h0 (by decide) rfl ?_
        iterate 2 refine wp_step rfl rfl ?_
        refine wp_getg rfl h0 (by decide) rfl ?_
        refine wp_step rfl rfl ?_
        refine wp_ald rfl (Or.inl ⟨rfl, rfl⟩) (by decide) hch (am_in_nI (by omega) (by decide)) ?_
        rw [nI_clamp (by omega)]
        rw [hci]
        refine wp_ast rfl (Or.inl ⟨rfl, rfl⟩) hch (am_in_nI (by omega) (by decide)) ?_
        rw [nI_clamp (by omega)]
        rw [show vp_nar (am_ty 0) (nI e) = nI e from rfl]
        have hch1 : am_get (am_upd S 398 (iA 60 (upd ch K.length (nI e)))) 398 = some (iA 60 (upd ch K.length (nI e))) := am_get_self hch
        have hf1 : fr [398] S (am_upd S 398 (iA 60 (upd ch K.length (nI e)))) := fr_up (by simp)
        generalize am_upd S 398 (iA 60 (upd ch K.length (nI e))) = S1 at hch1 hf1 ⊢
        refine wp_step rfl rfl ?_
        rw [show nI K.length + Int32.ofInt 1 = nI (K.length + 1) from nI_add K.length 1]
        refine wp_step rfl rfl ?_
        rw [show nI i + Int32.ofInt 1 = nI (i + 1) from nI_add i 1]
        refine wp_step rfl rfl ?_
        have hlen : (K ++ [e]).length = K.length + 1 := by simp
        show wp X (d + 4) 82 38 [some (.ref 0), some (.int fr0), some (.int (nI (K.length + 1))), some (.int (nI (i + 1)))] [] S1 Q
        rw [← hlen]
        refine ih (i + 1) (K ++ [e]) (upd ch K.length (nI e)) S1 (by omega) (by rw [hlen]; omega) (fun j e' hj => ?_) (fun j e' hj he' => ?_) (by rw [fr_get hf1 (by decide)]; exact h0) (flS_fr hf hf1 (fun j hj => by simp at hj; omega)) (reO_fr hO hf1 (fun j hj => by simp at hj; omega)) hch1 (fun K2 ch2 T e2 hf2 hch2 hK2 => hq K2 ch2 T (by rw [hdr, List.filter_cons, if_pos hp]; rw [List.append_assoc] at e2; exact e2) (fr_trans hf1 hf2) hch2 hK2)
        · rcases at_app hj with ⟨g1, g2⟩ | ⟨g1, g2⟩
          · exact (pk_un (by omega)).trans (hK j e' g2)
          · subst g1; subst g2; exact pk_us
        · exact (pk_un (by omega)).trans (hR j e' (by omega) he')
theorem frun_lt : ∀ {cs : List Nat} {k j : Nat} {s : jF}, frun cs k s = .inl j → j < k + cs.length := by
  intro cs
  induction cs with
  | nil => intro k j s h; cases h
  | cons c cs ih =>
    intro k j s h
    unfold frun at h
    rw [List.length_cons]
    split at h
    · cases h; omega
    · have := ih h; omega
theorem fres_lt {cs : List Nat} {k : Nat} (h : fres cs = .inl k) (h40 : cs.length ≤ 40) : k < 2 ^ 31 := by
  unfold fres at h
  split at h
  · rename_i e; cases h; have := frun_lt e; omega
  · split at h
    · cases h
    · cases h; omega
set_option maxHeartbeats 1000000 in
theorem q_select {cs xs : List Nat} {ty ch : Nat → Int32} {s : jF} {P : jFA} {S : am_S} {gn : Int32} {fb : Bool} (h : clR S rec sp (nI xs.length) mp b tot l A E re) (hch : am_get S 398 = some (iA 60 ch)) (hxs : chD ch xs) (hxe : ∀ e, e ∈ xs → e < re.2.1.length) (hx60 : xs.length ≤ 60) (hfl : flS S (nI cs.length) s P) (hdg : s.2.2.2.2.2.1 ≤ 9) (h40 : cs.length ≤ 40) (ht : am_get S 394 = some (cA 40 ty)) (hD : ∀ (i c : Nat), cs[i]? = some c → ty i = nI c ∧ c < 65536) (hcs : ∀ c, c ∈ cs → c < 65536) (hg : am_get S 401 = some (grC gn))
    (hbad : ∀ k T, fres cs = .inl k → fr [0, 393, 395, 396, 397] S T → am_get T 0 = some (frC rec sp (nI xs.length) (nI k)) → (∃ s' P', flS T (nI 0) s' P' ∧ s'.2.2.2.2.2.1 ≤ 9) → Q (.inr IAE, am_thrown T))
    (hgood : ∀ nm cm ys ch' T, fres cs = .inr (nm, cm) → ys = (if fb = true then List.range re.2.1.length else xs).filter (psI b tot re nm cm) → fr [0, 393, 395, 396, 397, 398, 401] S T → am_get T 0 = some (frC rec sp (nI ys.length) (-1)) → (∃ s' P', flS T (nI 0) s' P' ∧ s'.2.2.2.2.2.1 ≤ 9) → am_get T 398 = some (iA 60 ch') → chD ch' ys → am_get T 401 = some (grC (nI 0)) → Q (.inl (some (.int (nI ys.length))), T)) : ev X (d + 5) 82 [.ref 0, .int (bI fb)] S Q := by
  refine ev_wp (L0 := [some (.ref 0), some (.int (bI fb)), none, none]) (Nat.le_of_ble_eq_true rfl) rfl ?_
  obtain ⟨h0, hO, hrec, hrec9⟩ := h
  iterate 2 refine wp_step rfl rfl ?_
  refine wp_getg rfl h0 (by decide) rfl ?_
  refine wp_c0 rfl rfl (by decide) rfl (recv_ok hfl.1 rfl) rfl (q_flRead hfl hdg h40 ht hD (fun k T e1 hf1 hs1 => ?_) (fun s1 P1 T e1 hf1 h1 hI1 => ?_))
  · have h01 : am_get T 0 = some (frC rec sp (nI xs.length) mp) := by rw [fr_get hf1 (by decide)]; exact h0
    have hk40 : k < 2 ^ 31 := fres_lt e1 h40
    refine wp_putg rfl h01 (by decide) rfl rfl ?_
    rw [show va_up (frG rec sp (nI xs.length) mp) 7 (.int (nI k)) = frG rec sp (nI xs.length) (nI k) from frG_7]
    have h02 : am_get (am_upd T 0 (frC rec sp (nI xs.length) (nI k))) 0 = some (frC rec sp (nI xs.length) (nI k)) := am_get_self h01
    have hf2 : fr [0, 393, 395, 396, 397] S (am_upd T 0 (frC rec sp (nI xs.length) (nI k))) := fr_upd (fr_mono hf1 (fun j hj => by simp only [List.mem_append, List.mem_cons, List.not_mem_nil, or_false, List.mem_range'_1] at hj ⊢; omega)) (by simp)
    have hs2 : ∃ s' P', flS (am_upd T 0 (frC rec sp (nI xs.length) (nI k))) (nI 0) s' P' ∧ s'.2.2.2.2.2.1 ≤ 9 := by
      obtain ⟨s', P', g1, g2⟩ := hs1
      exact ⟨s', P', flS_fr g1 (fr_up (js := [0]) (by simp)) (fun j hj => by simp at hj; omega), g2⟩
    generalize am_upd T 0 (frC rec sp (nI xs.length) (nI k)) = T2 at h02 hf2 hs2 ⊢
    refine wp_step rfl rfl ?_
    refine wp_getg (v := (.int (nI k))) rfl h02 (by decide) rfl ?_
    refine wp_if rfl (fun c0 => ?_) (fun c0 => ?_)
    · replace c0 := z_lt_t (a := k) (by omega) c0
      exact c0.elim
    · replace c0 := z_lt_f (a := k) (by omega) c0
      refine wp_thr rfl (by decide) (hbad k T2 e1 hf2 h02 hs2)
  · have h01 : am_get T 0 = some (frC rec sp (nI xs.length) mp) := by rw [fr_get hf1 (by decide)]; exact h0
    obtain ⟨o1, o2, o3⟩ := fres_ok hcs e1
    rw [List.length_reverse] at o2
    refine wp_putg rfl h01 (by decide) rfl rfl ?_
    rw [show va_up (frG rec sp (nI xs.length) mp) 7 (.int (-1)) = frG rec sp (nI xs.length) (-1) from frG_7]
    have h02 : am_get (am_upd T 0 (frC rec sp (nI xs.length) (-1))) 0 = some (frC rec sp (nI xs.length) (-1)) := am_get_self h01
    have hf2 : fr [0, 393, 395, 396, 397] S (am_upd T 0 (frC rec sp (nI xs.length) (-1))) := fr_upd (fr_mono hf1 (fun j hj => by simp only [List.mem_append, List.mem_cons, List.not_mem_nil, or_false, List.mem_range'_1] at hj ⊢; omega)) (by simp)
    have h2 : flS (am_upd T 0 (frC rec sp (nI xs.length) (-1))) (nI 0) s1 P1 := flS_fr h1 (fr_up (js := [0]) (by simp)) (fun j hj => by simp at hj; omega)
    generalize am_upd T 0 (frC rec sp (nI xs.length) (-1)) = T2 at h02 hf2 h2 ⊢
    have hO2 := reO_fr hO hf2 (fun j hj => by simp only [List.mem_append, List.mem_cons, List.not_mem_nil, or_false, List.mem_range'_1] at hj; omega)
    have hch2 : am_get T2 398 = some (iA 60 ch) := by rw [fr_get hf2 (by decide)]; exact hch
    have hg2 : am_get T2 401 = some (grC gn) := by rw [fr_get hf2 (by decide)]; exact hg
    refine wp_step rfl rfl ?_
    refine wp_getg (v := (.int (-1))) rfl h02 (by decide) rfl ?_
    refine wp_if_t rfl rfl ?_
    have K : ∀ (zs : List Nat) chz U, fr [0, 393, 395, 396, 397, 398] S U → am_get U 0 = some (frC rec sp (nI zs.length) (-1)) → am_get U 398 = some (iA 60 chz) → flS U (nI 0) s1 P1 → reO U b tot rec l A E re → chD chz zs → zs.length ≤ 60 → (∀ e, e ∈ zs → e < re.2.1.length) → zs = (if fb = true then List.range re.2.1.length else xs) → wp X (d + 4) 82 34 [some (.ref 0), some (.int (bI fb)), none, none] [] U Q := by
      intro zs chz U hfU hU0 hUch hUf hUO hzD hz60 hze hze2
      iterate 4 refine wp_step rfl rfl ?_
      show wp X (d + 4) 82 38 [some (.ref 0), some (.int (bI fb)), some (.int (nI 0)), some (.int (nI 0))] [] U Q
      refine sl_loop hrec9 o2 o1 (fun x hx => o3 x (List.mem_reverse.mpr hx)) hz60 hze zs.length 0 [] chz U (by omega) (Nat.zero_le _) (fun i e h9 => by simp at h9) (fun j e _ h9 => hzD j e h9) hU0 hUf hUO hUch (fun K ch3 T3 e3 hf3 hch3 hK3 => ?_)
      rw [List.drop_zero, List.nil_append] at e3
      have h03 : am_get T3 0 = some (frC rec sp (nI zs.length) (-1)) := by rw [fr_get hf3 (by decide)]; exact hU0
      have hKl : K.length ≤ zs.length := by rw [e3]; exact List.length_filter_le _ _
      iterate 2 refine wp_step rfl rfl ?_
      refine wp_putg rfl h03 (by decide) rfl rfl ?_
      rw [show va_up (frG rec sp (nI zs.length) (-1)) 6 (.int (nI K.length)) = frG rec sp (nI K.length) (-1) from frG_6]
      have h04 : am_get (am_upd T3 0 (frC rec sp (nI K.length) (-1))) 0 = some (frC rec sp (nI K.length) (-1)) := am_get_self h03
      have hf4 : fr [0, 398] U (am_upd T3 0 (frC rec sp (nI K.length) (-1))) := fr_upd (fr_mono hf3 (fun j hj => by simp only [List.mem_append, List.mem_cons, List.not_mem_nil, or_false, List.mem_range'_1] at hj ⊢; omega)) (by simp)
      have hch4 : am_get (am_upd T3 0 (frC rec sp (nI K.length) (-1))) 398 = some (iA 60 ch3) := by rw [am_get_ne (by decide)]; exact hch3
      generalize am_upd T3 0 (frC rec sp (nI K.length) (-1)) = T4 at h04 hf4 hch4 ⊢
      have hg4 : am_get T4 401 = some (grC gn) := by rw [fr_get hf4 (by decide), fr_get hfU (by decide)]; exact hg
      refine wp_step rfl rfl ?_
      refine wp_getg rfl h04 (by decide) rfl ?_
      refine wp_c0 rfl rfl (by decide) rfl (recv_ok hg4 rfl) rfl (q_grClear hg4 (fun T5 hf5 hg5 => ?_))
      refine wp_step rfl rfl ?_
      refine wp_iret rfl rfl rfl (hgood s1.2.1 s1.2.2.1.reverse K ch3 T5 e1 (by rw [e3, hze2]) (fr_trans (fr_mono hfU (fun j hj => by simp only [List.mem_append, List.mem_cons, List.not_mem_nil, or_false, List.mem_range'_1] at hj ⊢; omega)) (fr_trans (fr_mono hf4 (fun j hj => by simp only [List.mem_append, List.mem_cons, List.not_mem_nil, or_false, List.mem_range'_1] at hj ⊢; omega)) (fr_mono hf5 (fun j hj => by simp only [List.mem_append, List.mem_cons, List.not_mem_nil, or_false, List.mem_range'_1] at hj ⊢; omega)))) (by rw [fr_get hf5 (by decide)]; exact h04) ⟨s1, P1, flS_fr hUf (fr_trans (fr_mono (ks := [0, 398, 401]) hf4 (fun j hj => by simp only [List.mem_append, List.mem_cons, List.not_mem_nil, or_false, List.mem_range'_1] at hj ⊢; omega)) (fr_mono hf5 (fun j hj => by simp only [List.mem_append, List.mem_cons, List.not_mem_nil, or_false, List.mem_range'_1] at hj ⊢; omega))) (fun j hj => by simp at hj; omega), hI1.2.2.1⟩ (by rw [fr_get hf5 (by decide)]; exact hch4) hK3 hg5)
    cases fb with
    | false =>
      refine wp_step rfl rfl ?_
      refine wp_if_t rfl rfl ?_
      exact K xs ch T2 (fr_mono hf2 (fun j hj => by simp only [List.mem_append, List.mem_cons, List.not_mem_nil, or_false, List.mem_range'_1] at hj ⊢; omega)) h02 hch2 h2 hO2 hxs hx60 hxe rfl
    | true =>
      refine wp_step rfl rfl ?_
      refine wp_if_f rfl rfl ?_
      refine wp_step rfl rfl ?_
      refine wp_c0 rfl rfl (by decide) rfl (recv_ok h02 rfl) rfl (q_chooseAll hrec (by omega) hO2.2.2.2.1 h02 hO2.2.1.1 hch2 (fun T3 ch3 hf3 h03 hch3 hcd3 => ?_))
      exact K (List.range re.2.1.length) ch3 T3 (fr_trans (fr_mono hf2 (fun j hj => by simp only [List.mem_append, List.mem_cons, List.not_mem_nil, or_false, List.mem_range'_1] at hj ⊢; omega)) (fr_mono hf3 (fun j hj => by simp only [List.mem_append, List.mem_cons, List.not_mem_nil, or_false, List.mem_range'_1] at hj ⊢; omega))) (by rw [List.length_range]; exact h03) hch3 (flS_fr h2 hf3 (fun j hj => by simp at hj; omega)) (reO_fr hO2 hf3 (fun j hj => by simp only [List.mem_append, List.mem_cons, List.not_mem_nil, or_false, List.mem_range'_1] at hj; omega)) (fun i e h9 => by
        have h8 := (List.getElem?_eq_some_iff.mp h9).1
        rw [List.length_range] at h8
        rw [List.getElem?_range h8] at h9
        cases h9
        exact hcd3 i h8) (by rw [List.length_range]; exact hO2.2.2.2.1) (fun e h9 => List.mem_range.mp h9) rfl
theorem q_misfit {S : am_S} (h0 : am_get S 0 = some (frC rec sp cc mp)) (hq : Q (.inl (some (.int mp)), S)) : ev X (d + 1) 83 [.ref 0] S Q := by
  refine ev_wp (L0 := [some (.ref 0)]) (Nat.le_of_ble_eq_true rfl) rfl ?_
  refine wp_step rfl rfl ?_
  refine wp_getg rfl h0 (by decide) rfl ?_
  refine wp_iret rfl rfl rfl hq
theorem q_selected {S : am_S} {xs : List Nat} {ch : Nat → Int32} {i : Int32} (h0 : am_get S 0 = some (frC rec sp (nI xs.length) mp)) (hch : am_get S 398 = some (iA 60 ch)) (hxs : chD ch xs) (hx60 : xs.length ≤ 60) (hret : ∀ k e, idx i xs.length = some k → xs[k]? = some e → Q (.inl (some (.int (nI e))), S)) (hthr : idx i xs.length = none → Q (.inr OOB, am_thrown S)) : ev X (d + 1) 84 [.ref 0, .int i] S Q := by
  refine ev_wp (L0 := [some (.ref 0), some (.int i)]) (Nat.le_of_ble_eq_true rfl) rfl ?_
  refine wp_step rfl rfl ?_
  refine wp_if rfl (fun c0 => ?_) (fun c0 => ?_)
  · replace c0 := q_lt_t c0
    refine wp_thr rfl (by decide) (hthr (idx_neg c0))
  · replace c0 := q_lt_f c0
    iterate 2 refine wp_step rfl rfl ?_
    refine wp_getg rfl h0 (by decide) rfl ?_
    refine wp_icmp rfl (fun c1 => ?_) (fun c1 => ?_)
    · replace c1 := i_lt_t c1
      obtain ⟨k, hk⟩ := idx_ok (n := xs.length) (by omega) c0 c1
      obtain ⟨e1, e2⟩ := idx_some hk (by omega)
      subst e1
      obtain ⟨e, he⟩ : ∃ e, xs[k]? = some e := ⟨_, List.getElem?_eq_getElem e2⟩
      refine wp_step rfl rfl ?_
      refine wp_getg rfl h0 (by decide) rfl ?_
      refine wp_step rfl rfl ?_
      refine wp_ald rfl (Or.inl ⟨rfl, rfl⟩) (by decide) hch (am_in_nI (by omega) (by decide)) ?_
      rw [nI_clamp (by omega)]
      rw [hxs k e he]
      refine wp_iret rfl rfl rfl (hret k e hk he)
    · replace c1 := i_lt_f c1
      refine wp_thr rfl (by decide) (hthr (idx_ge (by omega) c1))
end SELECT2
