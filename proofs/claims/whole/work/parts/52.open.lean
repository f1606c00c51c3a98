/-! FlightReader.open -/
def frG (rec sp : Nat) (cc mp : Int32) : Nat → Value := fun k => match k with
  | 0 => .ref 1
  | 1 => .ref 3
  | 2 => .ref rec
  | 3 => .ref sp
  | 4 => .ref 393
  | 5 => .ref 398
  | 6 => .int cc
  | 7 => .int mp
  | 8 => .ref 399
  | 9 => .ref 401
  | _ => .null
abbrev frC (rec sp : Nat) (cc mp : Int32) : am_C := ob 9 10 (frG rec sp cc mp)
theorem frG_2 {rec sp : Nat} {cc mp : Int32} {z : Nat} : va_up (frG rec sp cc mp) 2 (.ref z) = frG z sp cc mp := by
  funext k
  match k with
  | 0 => rfl
  | 1 => rfl
  | 2 => rfl
  | 3 => rfl
  | 4 => rfl
  | 5 => rfl
  | 6 => rfl
  | 7 => rfl
  | 8 => rfl
  | 9 => rfl
  | k + 10 => simp [va_up, frG]
theorem frG_3 {rec sp : Nat} {cc mp : Int32} {z : Nat} : va_up (frG rec sp cc mp) 3 (.ref z) = frG rec z cc mp := by
  funext k
  match k with
  | 0 => rfl
  | 1 => rfl
  | 2 => rfl
  | 3 => rfl
  | 4 => rfl
  | 5 => rfl
  | 6 => rfl
  | 7 => rfl
  | 8 => rfl
  | 9 => rfl
  | k + 10 => simp [va_up, frG]
theorem frG_6 {rec sp : Nat} {cc mp : Int32} {z : Int32} : va_up (frG rec sp cc mp) 6 (.int z) = frG rec sp z mp := by
  funext k
  match k with
  | 0 => rfl
  | 1 => rfl
  | 2 => rfl
  | 3 => rfl
  | 4 => rfl
  | 5 => rfl
  | 6 => rfl
  | 7 => rfl
  | 8 => rfl
  | 9 => rfl
  | k + 10 => simp [va_up, frG]
theorem frG_7 {rec sp : Nat} {cc mp : Int32} {z : Int32} : va_up (frG rec sp cc mp) 7 (.int z) = frG rec sp cc z := by
  funext k
  match k with
  | 0 => rfl
  | 1 => rfl
  | 2 => rfl
  | 3 => rfl
  | 4 => rfl
  | 5 => rfl
  | 6 => rfl
  | 7 => rfl
  | 8 => rfl
  | 9 => rfl
  | k + 10 => simp [va_up, frG]
def grG (n : Int32) : Nat → Value := fun k => match k with
  | 0 => .int n
  | 1 => .ref 402
  | 2 => .ref 403
  | 3 => .ref 404
  | 4 => .ref 405
  | 5 => .ref 406
  | 6 => .ref 407
  | _ => .null
abbrev grC (n : Int32) : am_C := ob 3 7 (grG n)
theorem grG_0 {n : Int32} {z : Int32} : va_up (grG n) 0 (.int z) = grG z := by
  funext k
  match k with
  | 0 => rfl
  | 1 => rfl
  | 2 => rfl
  | 3 => rfl
  | 4 => rfl
  | 5 => rfl
  | 6 => rfl
  | k + 7 => simp [va_up, grG]
section OPEN
variable {X : Nat × (Nat → Int32)} {d : Nat} {Q : am_R → Prop} {b : Nat → Nat} {tot rec sp : Nat} {cc mp : Int32}
theorem q_grClear {S : am_S} {n : Int32} (h : am_get S 401 = some (grC n)) (hq : ∀ T, fr [401] S T → am_get T 401 = some (grC (nI 0)) → Q (.inl none, T)) : ev X (d + 1) 30 [.ref 401] S Q := by
  refine ev_wp (L0 := [some (.ref 401)]) (Nat.le_of_ble_eq_true rfl) rfl ?_
  iterate 2 refine wp_step rfl rfl ?_
  refine wp_putg rfl h (by decide) rfl rfl ?_
  rw [show va_up (grG n) 0 (.int (Int32.ofInt 0)) = grG (nI 0) from grG_0]
  refine wp_vret rfl rfl (hq _ (fr_up (by simp)) (am_get_self h))
theorem q_vaClear {S : am_S} {v n l : Nat} {A : jVA} (h : vS S v n l A) (hq : ∀ T, fr [v] S T → vS T v 1 0 A → Q (.inl none, T)) : ev X (d + 1) 64 [.ref v] S Q := by
  refine ev_wp (L0 := [some (.ref v)]) (Nat.le_of_ble_eq_true rfl) rfl ?_
  obtain ⟨h0, h1, h2, h3, h4, h5, h6, h7, h8⟩ := id h
  iterate 2 refine wp_step rfl rfl ?_
  refine wp_putg rfl h0 (by decide) rfl rfl ?_
  rw [show va_up (vaG v (nI n) (nI l)) 0 (.int (Int32.ofInt 1)) = vaG v (nI 1) (nI l) from vaG_0]
  iterate 2 refine wp_step rfl rfl ?_
  refine wp_putg rfl (am_get_self h0) (by decide) rfl rfl ?_
  rw [am_upd_upd, show va_up (vaG v (nI 1) (nI l)) 5 (.int (Int32.ofInt 0)) = vaG v (nI 1) (nI 0) from vaG_5]
  refine wp_vret rfl rfl (hq _ (fr_up (by simp)) ⟨am_get_self h0, by rw [am_get_ne (by omega)]; exact h1, by rw [am_get_ne (by omega)]; exact h2, by rw [am_get_ne (by omega)]; exact h3, by rw [am_get_ne (by omega)]; exact h4, by rw [am_get_ne (by omega)]; exact h5, by decide, h7, h8⟩)
theorem q_reClear {S : am_S} {R ci ne n l : Nat} {E : jEA} {A : jVA} (h : reS S R ci ne E) (hv : vS S (R + 2) n l A) (hq : ∀ T, fr [R, R + 2] S T → reS T R 0 0 E → vS T (R + 2) 1 0 A → Q (.inl none, T)) : ev X (d + 2) 34 [.ref R] S Q := by
  refine ev_wp (L0 := [some (.ref R)]) (Nat.le_of_ble_eq_true rfl) rfl ?_
  iterate 2 refine wp_step rfl rfl ?_
  refine wp_putg rfl h.1 (by decide) rfl rfl ?_
  rw [show va_up (reG R (nI ci) (nI ne)) 0 (.int (Int32.ofInt 0)) = reG R (nI 0) (nI ne) from reG_0]
  have h1 := reS_0 h 0 ne
  have hf1 : fr [R] S (am_upd S R (reC R (nI 0) (nI ne))) := fr_up (by simp)
  generalize am_upd S R (reC R (nI 0) (nI ne)) = S1 at h1 hf1 ⊢
  iterate 2 refine wp_step rfl rfl ?_
  refine wp_putg rfl h1.1 (by decide) rfl rfl ?_
  rw [show va_up (reG R (nI 0) (nI ne)) 3 (.int (Int32.ofInt 0)) = reG R (nI 0) (nI 0) from reG_3]
  have h2 := reS_0 h1 0 0
  have hf2 : fr [R] S1 (am_upd S1 R (reC R (nI 0) (nI 0))) := fr_up (by simp)
  generalize am_upd S1 R (reC R (nI 0) (nI 0)) = S2 at h2 hf2 ⊢
  have hv2 := vS_fr hv (fr_trans hf1 hf2) (fun j hj => by simp only [List.mem_append, List.mem_cons, List.not_mem_nil, or_false, List.mem_range'_1] at hj; omega)
  refine wp_step rfl rfl ?_
  refine wp_getg rfl h2.1 (by decide) rfl ?_
  refine wp_c0 rfl rfl (by decide) rfl (recv_ok hv2.1 rfl) rfl (q_vaClear hv2 (fun T hf3 hv3 => ?_))
  refine wp_vret rfl rfl (hq T (fr_trans (fr_mono (fr_trans hf1 hf2) (fun j hj => by simp only [List.mem_append, List.mem_cons, List.not_mem_nil, or_false, List.mem_range'_1] at hj ⊢; omega)) (fr_mono hf3 (fun j hj => by simp only [List.mem_append, List.mem_cons, List.not_mem_nil, or_false, List.mem_range'_1] at hj ⊢; omega))) (reS_fr h2 hf3 (fun j hj => by simp only [List.mem_append, List.mem_cons, List.not_mem_nil, or_false, List.mem_range'_1] at hj; omega)) hv3)
theorem ca_loop {ne : Nat} {ci : Int32} (hrec : 11 ≤ rec) (hrec9 : rec < 393) (hne : ne ≤ 60) : ∀ (m i : Nat) (ch : Nat → Int32) (S : am_S), i + m = ne → am_get S 0 = some (frC rec sp cc mp) → am_get S rec = some (reC rec ci (nI ne)) → am_get S 398 = some (iA 60 ch) → (∀ j, j < i → ch j = nI j) →
    (∀ T ch2, fr [0, 398] S T → am_get T 0 = some (frC rec sp (nI ne) mp) → am_get T 398 = some (iA 60 ch2) → (∀ j, j < ne → ch2 j = nI j) → Q (.inl none, T)) → wp X d 89 2 [some (.ref 0), some (.int (nI i))] [] S Q := by
  intro m
  induction m with
  | zero =>
    intro i ch S hi h hr hch hd hq
    iterate 2 refine wp_step rfl rfl ?_
    refine wp_getg rfl h (by decide) rfl ?_
    refine wp_getg rfl hr (by decide) rfl ?_
    refine wp_icmp rfl (fun c0 => ?_) (fun c0 => ?_)
    · replace c0 := n_ge_t (a := i) (b := ne) (by omega) (by omega) c0
      iterate 2 refine wp_step rfl rfl ?_
      refine wp_getg rfl h (by decide) rfl ?_
      refine wp_getg (v := (.int (nI ne))) rfl hr (by decide) rfl ?_
      refine wp_putg rfl h (by decide) rfl rfl ?_
      rw [show va_up (frG rec sp cc mp) 6 (.int (nI ne)) = frG rec sp (nI ne) mp from frG_6]
      refine wp_vret rfl rfl (hq _ ch (fr_up (by simp)) (am_get_self h) (by rw [am_get_ne (by decide)]; exact hch) (fun j hj => hd j (by omega)))
    · replace c0 := n_ge_f (a := i) (b := ne) (by omega) (by omega) c0
      omega
  | succ m ih =>
    intro i ch S hi h hr hch hd hq
    iterate 2 refine wp_step rfl rfl ?_
    refine wp_getg rfl h (by decide) rfl ?_
    refine wp_getg rfl hr (by decide) rfl ?_
    refine wp_icmp rfl (fun c0 => ?_) (fun c0 => ?_)
    · replace c0 := n_ge_t (a := i) (b := ne) (by omega) (by omega) c0
      omega
    · replace c0 := n_ge_f (a := i) (b := ne) (by omega) (by omega) c0
      refine wp_step rfl rfl ?_
      refine wp_getg rfl h (by decide) rfl ?_
      iterate 2 refine wp_step rfl rfl ?_
      refine wp_ast rfl (Or.inl ⟨rfl, rfl⟩) hch (am_in_nI (by omega) (by decide)) ?_
      rw [nI_clamp (by omega)]
      rw [show vp_nar (am_ty 0) (nI i) = nI i from rfl]
      iterate 2 refine wp_step rfl rfl ?_
      rw [show nI i + Int32.ofInt 1 = nI (i + 1) from nI_add i 1]
      have hf1 : fr [0, 398] S (am_upd S 398 (iA 60 (upd ch i (nI i)))) := fr_up (by simp)
      refine ih (i + 1) (upd ch i (nI i)) _ (by omega) (by rw [am_get_ne (by decide)]; exact h) (by rw [am_get_ne (by omega)]; exact hr) (am_get_self hch) (fun j hj => ?_) (fun T ch2 hf2 g1 g2 g3 => hq T ch2 (fr_trans hf1 hf2) g1 g2 g3)
      by_cases e9 : j = i
      · subst e9; exact pk_us
      · rw [pk_un e9]; exact hd j (by omega)
theorem q_chooseAll {S : am_S} {ne : Nat} {ci : Int32} {ch : Nat → Int32} (hrec : 11 ≤ rec) (hrec9 : rec < 393) (hne : ne ≤ 60) (h : am_get S 0 = some (frC rec sp cc mp)) (hr : am_get S rec = some (reC rec ci (nI ne))) (hch : am_get S 398 = some (iA 60 ch))
    (hq : ∀ T ch2, fr [0, 398] S T → am_get T 0 = some (frC rec sp (nI ne) mp) → am_get T 398 = some (iA 60 ch2) → (∀ j, j < ne → ch2 j = nI j) → Q (.inl none, T)) : ev X (d + 1) 89 [.ref 0] S Q := by
  refine ev_wp (L0 := [some (.ref 0), none]) (Nat.le_of_ble_eq_true rfl) rfl ?_
  iterate 2 refine wp_step rfl rfl ?_
  exact ca_loop hrec hrec9 hne ne 0 ch S (by omega) h hr hch (fun j hj => by omega) hq
set_option maxHeartbeats 1000000 in
theorem op_loop (hb : ∀ j, b j < 256) (hsp : 11 ≤ sp) (hsp9 : sp < 393) (ht9 : tot ≤ 960) : ∀ (f i s l : Nat) (A : jVA) (E : jEA) (re : jRe) (pos lim idp : Nat) (S : am_S), i + f = 5 → (i = 0 ∨ s < tot) → am_get S 0 = some (frC rec sp cc mp) → sJ S b tot pos lim idp → cpSh S → reO S b tot sp l A E re → l ≤ s → s ≤ tot →
    (∀ re' s' l' A' E' T y, rdO b tot f s re = .inr re' → fr ([1, 3, 4, 5, 6, 7, 8, 9, 10] ++ List.range' sp 191) S T → (∃ pos lim idp, sJ T b tot pos lim idp) → cpSh T → reO T b tot sp l' A' E' re' → wp X (d + 28) 74 56 [some (.ref 0), some (.int (nI tot)), some (.int (nI s')), some (.int (nI y))] [] T Q) →
    (∀ k pl T, rdO b tot f s re = .inl (k, pl) → fr ([1, 3, 4, 5, 6, 7, 8, 9, 10] ++ List.range' sp 191) S T → sX T tot k pl → cpSh T → reW T sp → Q (.inr IAE, am_thrown T)) →
    wp X (d + 28) 74 19 [some (.ref 0), some (.int (nI tot)), some (.int (nI s)), some (.int (nI i))] [] S Q := by
  intro f
  induction f with
  | zero =>
    intro i s l A E re pos lim idp S hi hi0 h hJ hcp hO hls hst hret hthr
    iterate 2 refine wp_step rfl rfl ?_
    refine wp_icmp rfl (fun c0 => ?_) (fun c0 => ?_)
    · replace c0 := n_gt_t (a := i) (b := 4) (by omega) (by omega) c0
      exact hret re s l A E S i rfl (fr_refl _ _) ⟨_, _, _, hJ⟩ hcp hO
    · replace c0 := n_gt_f (a := i) (b := 4) (by omega) (by omega) c0
      omega
  | succ f ih =>
    intro i s l A E re pos lim idp S hi hi0 h hJ hcp hO hls hst hret hthr
    iterate 2 refine wp_step rfl rfl ?_
    refine wp_icmp rfl (fun c0 => ?_) (fun c0 => ?_)
    · replace c0 := n_gt_t (a := i) (b := 4) (by omega) (by omega) c0
      omega
    · replace c0 := n_gt_f (a := i) (b := 4) (by omega) (by omega) c0
      have K : wp X (d + 28) 74 33 [some (.ref 0), some (.int (nI tot)), some (.int (nI s)), some (.int (nI i))] [] S Q := by
        refine wp_step rfl rfl ?_
        refine wp_getg rfl h (by decide) rfl ?_
        refine wp_step rfl rfl ?_
        refine wp_getg rfl h (by decide) rfl ?_
        refine wp_step rfl rfl ?_
        refine wp_getg rfl h (by decide) rfl ?_
        refine wp_step rfl rfl ?_
        refine wp_c0 rfl rfl (by decide) rfl (recv_ok hO.2.1.1 rfl) rfl (q_readChunk hb hsp (by omega) hJ hcp hO hls hst (fun e re2 l2 A2 E2 T e1 hf1 hk1 hcp1 hO1 hl1 het hse => ?_) (fun k pl T e1 hf1 hx1 hcp1 hW1 => ?_))
        · obtain ⟨pos1, lim1, idp1, hk1⟩ := hk1
          have h1 : am_get T 0 = some (frC rec sp cc mp) := by rw [fr_get hf1 (by simp only [List.mem_append, List.mem_cons, List.not_mem_nil, or_false, List.mem_range'_1]; omega)]; exact h
          iterate 3 refine wp_step rfl rfl ?_
          rw [show nI i + Int32.ofInt 1 = nI (i + 1) from nI_add i 1]
          show wp X _ 74 19 [some (.ref 0), some (.int (nI tot)), some (.int (nI e)), some (.int (nI (i + 1)))] [] T Q
          by_cases c1 : e < tot
          · exact ih (i + 1) e l2 A2 E2 re2 pos1 lim1 idp1 T (by omega) (Or.inr c1) h1 (sJ_K hk1) hcp1 hO1 hl1 het (fun re3 s3 l3 A3 E3 T3 y e3 hf3 hk3 hcp3 hO3 => hret re3 s3 l3 A3 E3 T3 y (by unfold rdO; rw [e1]; dsimp only; rw [if_pos c1]; exact e3) (fr_trans hf1 hf3) hk3 hcp3 hO3) (fun k pl T3 e3 hf3 hx3 hcp3 hW3 => hthr k pl T3 (by unfold rdO; rw [e1]; dsimp only; rw [if_pos c1]; exact e3) (fr_trans hf1 hf3) hx3 hcp3 hW3)
          · have done : ∀ y, wp X (d + 28) 74 56 [some (.ref 0), some (.int (nI tot)), some (.int (nI e)), some (.int (nI y))] [] T Q := fun y => hret re2 e l2 A2 E2 T y (by unfold rdO; rw [e1]; dsimp only; rw [if_neg c1]) hf1 ⟨_, _, _, sJ_K hk1⟩ hcp1 hO1
            iterate 2 refine wp_step rfl rfl ?_
            refine wp_icmp rfl (fun c2 => ?_) (fun c2 => ?_)
            · replace c2 := n_gt_t (a := i + 1) (b := 4) (by omega) (by omega) c2
              exact done _
            · replace c2 := n_gt_f (a := i + 1) (b := 4) (by omega) (by omega) c2
              refine wp_step rfl rfl ?_
              refine wp_if rfl (fun c3 => ?_) (fun c3 => ?_)
              · replace c3 := z_eq_t (a := i + 1) (by omega) c3
                omega
              · replace c3 := z_eq_f (a := i + 1) (by omega) c3
                iterate 2 refine wp_step rfl rfl ?_
                refine wp_icmp rfl (fun c4 => ?_) (fun c4 => ?_)
                · replace c4 := n_ge_t (a := e) (b := tot) (by omega) (by omega) c4
                  exact done _
                · replace c4 := n_ge_f (a := e) (b := tot) (by omega) (by omega) c4
                  omega
        · exact hthr k pl T (by unfold rdO; rw [e1]) hf1 hx1 hcp1 hW1
      refine wp_step rfl rfl ?_
      refine wp_if rfl (fun c1 => ?_) (fun c1 => ?_)
      · replace c1 := z_eq_t (a := i) (by omega) c1
        exact K
      · replace c1 := z_eq_f (a := i) (by omega) c1
        iterate 2 refine wp_step rfl rfl ?_
        refine wp_icmp rfl (fun c2 => ?_) (fun c2 => ?_)
        · replace c2 := n_ge_t (a := s) (b := tot) (by omega) (by omega) c2
          omega
        · replace c2 := n_ge_f (a := s) (b := tot) (by omega) (by omega) c2
          exact K
theorem reO_fr {js : List Nat} {S T : am_S} {R l : Nat} {A : jVA} {E : jEA} {re : jRe} (h : reO S b tot R l A E re) (hf : fr js S T) (hj : ∀ j, j ∈ js → j < R ∨ R + 191 ≤ j) : reO T b tot R l A E re := by
  obtain ⟨h1, h2, h3, h4, h5, h6, h7, h8, h9, h10, h11, h12⟩ := h
  refine ⟨vS_fr h1 hf (fun j g => by have := hj _ g; omega), reS_fr h2 hf (fun j g => by have := hj _ g; omega), h3, h4, h5, reF_fr h6 hf (fun g => by have := hj _ g; omega), fun c ck hck => ?_, fun c hc => ckA_fr (h8 c hc) hf (fun j g => by have := hj _ g; omega), h9, h10, h11, h12⟩
  have hc := (List.getElem?_eq_some_iff.mp hck).1
  exact ckF_fr (h7 c ck hck) (h11 ck (mem_at hck)).2.2.1.1 hf (fun j g => by have := hj _ g; omega)
theorem reW_fr {js : List Nat} {S T : am_S} {R : Nat} (h : reW S R) (hf : fr js S T) (hj : ∀ j, j ∈ js → j < R ∨ R + 191 ≤ j) : reW T R := by
  obtain ⟨⟨ci, ne, E, h1⟩, h2, h3, h4⟩ := h
  exact ⟨⟨ci, ne, E, reS_fr h1 hf (fun j g => by have := hj _ g; omega)⟩, vSx_fr h2 hf (fun j g => by have := hj _ g; omega), reF_fr h3 hf (fun g => by have := hj _ g; omega), fun c hc => ckA_fr (h4 c hc) hf (fun j g => by have := hj _ g; omega)⟩
theorem reO_W {S : am_S} {R l : Nat} {A : jVA} {E : jEA} {re : jRe} (h : reO S b tot R l A E re) : reW S R := ⟨⟨_, _, _, h.2.1⟩, ⟨_, _, _, h.1⟩, h.2.2.2.2.2.1, h.2.2.2.2.2.2.2.1⟩
set_option maxHeartbeats 2000000 in
theorem q_open {S : am_S} {fed tot0 pos lim idp : Nat} {fk fp gn : Int32} {ch : Nat → Int32} (hb : ∀ j, b j < 256) (hsp : 11 ≤ sp) (hsp9 : sp < 393) (h : am_get S 0 = some (frC rec sp cc mp)) (hs : am_get S 1 = some (src fed tot0 pos lim idp fk fp)) (hB : sB S b fed) (hfed : fed ≤ 960) (hpos : pos ≤ 960) (hlim : lim ≤ 960) (hidp : idp ≤ 960) (hcp : cpSh S) (hW : reW S sp) (hch : am_get S 398 = some (iA 60 ch)) (hg : am_get S 401 = some (grC gn)) (hsp2 : sp + 191 ≤ 393)
    (hret : ∀ re l A E ch' T, rdA b fed = .inr re → fr ([0, 1, 3, 4, 5, 6, 7, 8, 9, 10, 398, 401] ++ List.range' sp 191) S T → am_get T 0 = some (frC sp rec (nI re.2.1.length) mp) → (∃ pos lim idp, sJ T b fed pos lim idp) → cpSh T → reO T b fed sp l A E re → am_get T 398 = some (iA 60 ch') → (∀ j, j < re.2.1.length → ch' j = nI j) → am_get T 401 = some (grC (nI 0)) → Q (.inl (some (.int (nI re.2.1.length))), T))
    (hthr : ∀ k pl T, rdA b fed = .inl (k, pl) → fr ([1, 3, 4, 5, 6, 7, 8, 9, 10] ++ List.range' sp 191) S T → sX T fed k pl → cpSh T → reW T sp → Q (.inr IAE, am_thrown T)) :
    ev X (d + 29) 74 [.ref 0] S Q := by
  refine ev_wp (L0 := [some (.ref 0), none, none, none]) (Nat.le_of_ble_eq_true rfl) rfl ?_
  obtain ⟨⟨ci, ne, E, hr⟩, ⟨n, l, A, hv⟩, hF, hCA⟩ := id hW
  refine wp_step rfl rfl ?_
  refine wp_getg rfl h (by decide) rfl ?_
  refine wp_c0 rfl rfl (by decide) rfl (recv_ok hs rfl) rfl (ev_eq (s_rewind hs) ?_)
  have hk1 : am_get (am_upd S 1 (src 0 fed pos lim idp 0 (-1))) 1 = some (src 0 fed pos lim idp 0 (-1)) := am_get_self hs
  have hf1 : fr [1] S (am_upd S 1 (src 0 fed pos lim idp 0 (-1))) := fr_up (by simp)
  generalize am_upd S 1 (src 0 fed pos lim idp 0 (-1)) = S1 at hk1 hf1 ⊢
  have hJ1 : sJ S1 b fed pos lim idp := ⟨hk1, sB_fr hB hf1 (by decide), hfed, hpos, hlim, hidp⟩
  have h1 : am_get S1 0 = some (frC rec sp cc mp) := by rw [fr_get hf1 (by decide)]; exact h
  have hr1 := reS_fr hr hf1 (fun j hj => by simp only [List.mem_append, List.mem_cons, List.not_mem_nil, or_false, List.mem_range'_1] at hj; omega)
  have hv1 := vS_fr hv hf1 (fun j hj => by simp only [List.mem_append, List.mem_cons, List.not_mem_nil, or_false, List.mem_range'_1] at hj; omega)
  iterate 2 refine wp_step rfl rfl ?_
  refine wp_getg rfl h1 (by decide) rfl ?_
  refine wp_c0 rfl rfl (by decide) rfl (recv_ok hr1.1 rfl) rfl (q_reClear hr1 hv1 (fun T hf2 hr2 hv2 => ?_))
  have hf12 : fr [1, sp, sp + 2] S T := fr_trans (fr_mono hf1 (fun j hj => by simp only [List.mem_append, List.mem_cons, List.not_mem_nil, or_false, List.mem_range'_1] at hj ⊢; omega)) (fr_mono hf2 (fun j hj => by simp only [List.mem_append, List.mem_cons, List.not_mem_nil, or_false, List.mem_range'_1] at hj ⊢; omega))
  have hO2 : reO T b fed sp 0 A E (1, [], []) := ⟨hv2, hr2, fun i y hy => by simp at hy, by simp, fun y hy => by simp at hy, reF_fr hF hf12 (by simp only [List.mem_append, List.mem_cons, List.not_mem_nil, or_false, List.mem_range'_1]; omega), fun c ck hck => by simp at hck, fun c hc => ckA_fr (hCA c hc) hf12 (fun j hj => by simp only [List.mem_append, List.mem_cons, List.not_mem_nil, or_false, List.mem_range'_1] at hj; omega), by simp, by simp, fun ck hck => by simp at hck, by omega⟩
  obtain ⟨nc0, mc0, B0, hc⟩ := id hcp
  have hcp2 : cpSh T := ⟨_, _, _, cpS_fr hc hf12 (fun j hj => by simp only [List.mem_append, List.mem_cons, List.not_mem_nil, or_false, List.mem_range'_1] at hj; omega)⟩
  have h2 : am_get T 0 = some (frC rec sp cc mp) := by rw [fr_get hf12 (by simp only [List.mem_append, List.mem_cons, List.not_mem_nil, or_false, List.mem_range'_1]; omega)]; exact h
  iterate 4 refine wp_step rfl rfl ?_
  show wp X _ 74 19 [some (.ref 0), some (.int (nI fed)), some (.int (nI 0)), some (.int (nI 0))] [] T Q
  refine op_loop (d := d) hb hsp (by omega) hfed 5 0 0 0 A E (1, [], []) pos lim idp T (by omega) (Or.inl rfl) h2 (sJ_fr hJ1 hf2 (by simp only [List.mem_append, List.mem_cons, List.not_mem_nil, or_false, List.mem_range'_1]; omega) (by simp only [List.mem_append, List.mem_cons, List.not_mem_nil, or_false, List.mem_range'_1]; omega)) hcp2 hO2 (by omega) (by omega) (fun re s3 l3 A3 E3 T3 y e3 hf3 hk3 hcp3 hO3 => ?_) (fun k pl T3 e3 hf3 hx3 hcp3 hW3 => ?_)
  · have hfA : fr ([1, 3, 4, 5, 6, 7, 8, 9, 10] ++ List.range' sp 191) S T3 := fr_trans (fr_mono hf12 (fun j hj => by simp only [List.mem_append, List.mem_cons, List.not_mem_nil, or_false, List.mem_range'_1] at hj ⊢; omega)) hf3
    have h3 : am_get T3 0 = some (frC rec sp cc mp) := by rw [fr_get hfA (by simp only [List.mem_append, List.mem_cons, List.not_mem_nil, or_false, List.mem_range'_1]; omega)]; exact h
    have hr3 := hO3.2.1
    refine wp_step rfl rfl ?_
    refine wp_getg (v := (.ref rec)) rfl h3 (by decide) rfl ?_
    iterate 3 refine wp_step rfl rfl ?_
    refine wp_getg (v := (.ref sp)) rfl h3 (by decide) rfl ?_
    refine wp_putg rfl h3 (by decide) rfl rfl ?_
    rw [show va_up (frG rec sp cc mp) 2 (.ref sp) = frG sp sp cc mp from frG_2]
    have h4 : am_get (am_upd T3 0 (frC sp sp cc mp)) 0 = some (frC sp sp cc mp) := am_get_self h3
    have hf4 : fr [0] T3 (am_upd T3 0 (frC sp sp cc mp)) := fr_up (by simp)
    generalize am_upd T3 0 (frC sp sp cc mp) = T4 at h4 hf4 ⊢
    iterate 2 refine wp_step rfl rfl ?_
    refine wp_putg rfl h4 (by decide) rfl rfl ?_
    rw [show va_up (frG sp sp cc mp) 3 (.ref rec) = frG sp rec cc mp from frG_3]
    have h5 : am_get (am_upd T4 0 (frC sp rec cc mp)) 0 = some (frC sp rec cc mp) := am_get_self h4
    have hf5 : fr [0] T3 (am_upd T4 0 (frC sp rec cc mp)) := fr_trans hf4 (fr_up (by simp))
    generalize am_upd T4 0 (frC sp rec cc mp) = T5 at h5 hf5 ⊢
    have hr5 := reS_fr hr3 hf5 (fun j hj => by simp only [List.mem_append, List.mem_cons, List.not_mem_nil, or_false, List.mem_range'_1] at hj; omega)
    have hch5 : am_get T5 398 = some (iA 60 ch) := by rw [fr_get hf5 (by decide), fr_get hfA (by simp only [List.mem_append, List.mem_cons, List.not_mem_nil, or_false, List.mem_range'_1]; omega)]; exact hch
    refine wp_step rfl rfl ?_
    refine wp_c0 rfl rfl (by decide) rfl (recv_ok h5 rfl) rfl (q_chooseAll hsp hsp9 hO3.2.2.2.1 h5 hr5.1 hch5 (fun T6 ch6 hf6 h6 hch6 hcd6 => ?_))
    have hg6 : am_get T6 401 = some (grC gn) := by rw [fr_get hf6 (by decide), fr_get hf5 (by decide), fr_get hfA (by simp only [List.mem_append, List.mem_cons, List.not_mem_nil, or_false, List.mem_range'_1]; omega)]; exact hg
    refine wp_step rfl rfl ?_
    refine wp_getg rfl h6 (by decide) rfl ?_
    refine wp_c0 rfl rfl (by decide) rfl (recv_ok hg6 rfl) rfl (q_grClear hg6 (fun T7 hf7 hg7 => ?_))
    have hf57 : fr [0, 398, 401] T3 T7 := fr_trans (fr_mono hf5 (fun j hj => by simp only [List.mem_append, List.mem_cons, List.not_mem_nil, or_false, List.mem_range'_1] at hj ⊢; omega)) (fr_trans (fr_mono hf6 (fun j hj => by simp only [List.mem_append, List.mem_cons, List.not_mem_nil, or_false, List.mem_range'_1] at hj ⊢; omega)) (fr_mono hf7 (fun j hj => by simp only [List.mem_append, List.mem_cons, List.not_mem_nil, or_false, List.mem_range'_1] at hj ⊢; omega)))
    have h7 : am_get T7 0 = some (frC sp rec (nI re.2.1.length) mp) := by rw [fr_get hf7 (by decide)]; exact h6
    have hr7 := reS_fr hr3 hf57 (fun j hj => by simp only [List.mem_append, List.mem_cons, List.not_mem_nil, or_false, List.mem_range'_1] at hj; omega)
    refine wp_step rfl rfl ?_
    refine wp_getg rfl h7 (by decide) rfl ?_
    refine wp_getg rfl hr7.1 (by decide) rfl ?_
    refine wp_iret rfl rfl rfl (hret re l3 A3 E3 ch6 T7 e3 (fr_trans (fr_mono hfA (fun j hj => by simp only [List.mem_append, List.mem_cons, List.not_mem_nil, or_false, List.mem_range'_1] at hj ⊢; omega)) (fr_mono hf57 (fun j hj => by simp only [List.mem_append, List.mem_cons, List.not_mem_nil, or_false, List.mem_range'_1] at hj ⊢; omega))) h7 ?_ ?_ ?_ (by rw [fr_get hf7 (by decide)]; exact hch6) hcd6 hg7)
    · obtain ⟨a, c, i, g⟩ := hk3
      exact ⟨a, c, i, sJ_fr g hf57 (by simp only [List.mem_append, List.mem_cons, List.not_mem_nil, or_false, List.mem_range'_1]; omega) (by simp only [List.mem_append, List.mem_cons, List.not_mem_nil, or_false, List.mem_range'_1]; omega)⟩
    · obtain ⟨a, c, B, g⟩ := hcp3
      exact ⟨a, c, B, cpS_fr g hf57 (fun j hj => by simp only [List.mem_append, List.mem_cons, List.not_mem_nil, or_false, List.mem_range'_1] at hj; omega)⟩
    · exact reO_fr hO3 hf57 (fun j hj => by simp only [List.mem_append, List.mem_cons, List.not_mem_nil, or_false, List.mem_range'_1] at hj; omega)
  · exact hthr k pl T3 e3 (fr_trans (fr_mono hf12 (fun j hj => by simp only [List.mem_append, List.mem_cons, List.not_mem_nil, or_false, List.mem_range'_1] at hj ⊢; omega)) hf3) hx3 hcp3 hW3
end OPEN
