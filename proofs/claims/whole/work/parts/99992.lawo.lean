/-! THE LAW: open and select -/
theorem clI_opo {S T : am_S} {rec sp : Nat} {mp fk fp : Int32} {fs xs cs : List Nat} {b : Nat → Nat} {tot : Nat} {re : jRe} {gs : List jG} {b' : Nat → Nat} {re' : jRe} {l' : Nat} {A' : jVA} {E' : jEA} {ch' : Nat → Int32} (h : clI S rec sp mp fk fp fs xs cs b tot re gs) (hf : fr ([0, 1, 3, 4, 5, 6, 7, 8, 9, 10, 398, 401] ++ List.range' sp 191) S T) (a0 : am_get T 0 = some (frC sp rec (nI re'.2.1.length) mp)) (hJ : ∃ pos lim idp, sJ T b' fs.length pos lim idp) (hcp : cpSh T) (hO : reO T b' fs.length sp l' A' E' re') (hch : am_get T 398 = some (iA 60 ch')) (hcj : ∀ j, j < re'.2.1.length → ch' j = nI j) (hg : am_get T 401 = some (grC (nI 0))) : clI T sp rec mp 0 (-1) [] (List.range re'.2.1.length) cs b' fs.length re' [] := by
  obtain ⟨h0, h1, ⟨t0, pos, lim, idp, h2, h3⟩, ⟨fb, h4, h5⟩, h6, h7, ⟨l, A, E, h8⟩, ⟨ch, h9, h10⟩, ⟨s, P, h11, h12⟩, ⟨ty, h13, h14⟩, h15, ⟨PG, h16, h17⟩⟩ := h
  obtain ⟨pos', lim', idp', j1, ⟨fb', j2, _⟩, j3, j4, j5, j6⟩ := hJ
  refine ⟨by omega, by rw [List.length_range]; exact a0, ⟨_, pos', lim', idp', j1, j4, j5, j6⟩, ⟨fb', j2, fun i x hx => by simp at hx⟩, hcp, reW_fr (reO_W h8) hf (fun j hj => by simp only [List.mem_append, List.mem_cons, List.not_mem_nil, or_false, List.mem_range'_1] at hj; omega), ⟨l', A', E', hO⟩, ⟨ch', hch, fun i e he => ?_⟩, ⟨s, P, flS_fr h11 hf (fun j hj => by simp only [List.mem_append, List.mem_cons, List.not_mem_nil, or_false, List.mem_range'_1] at hj; omega), h12⟩, ⟨ty, by rw [fr_get hf (fun hj => by simp only [List.mem_append, List.mem_cons, List.not_mem_nil, or_false, List.mem_range'_1] at hj; omega)]; exact h13, h14⟩, taW_fr h15 hf (fun hj => by simp only [List.mem_append, List.mem_cons, List.not_mem_nil, or_false, List.mem_range'_1] at hj; omega) (fun hj => by simp only [List.mem_append, List.mem_cons, List.not_mem_nil, or_false, List.mem_range'_1] at hj; omega), ⟨PG, ⟨hg, by rw [fr_get hf (fun hj => by simp only [List.mem_append, List.mem_cons, List.not_mem_nil, or_false, List.mem_range'_1] at hj; omega)]; exact h16.2.1, by rw [fr_get hf (fun hj => by simp only [List.mem_append, List.mem_cons, List.not_mem_nil, or_false, List.mem_range'_1] at hj; omega)]; exact h16.2.2.1, by rw [fr_get hf (fun hj => by simp only [List.mem_append, List.mem_cons, List.not_mem_nil, or_false, List.mem_range'_1] at hj; omega)]; exact h16.2.2.2.1, by rw [fr_get hf (fun hj => by simp only [List.mem_append, List.mem_cons, List.not_mem_nil, or_false, List.mem_range'_1] at hj; omega)]; exact h16.2.2.2.2.1, by rw [fr_get hf (fun hj => by simp only [List.mem_append, List.mem_cons, List.not_mem_nil, or_false, List.mem_range'_1] at hj; omega)]; exact h16.2.2.2.2.2.1, by rw [fr_get hf (fun hj => by simp only [List.mem_append, List.mem_cons, List.not_mem_nil, or_false, List.mem_range'_1] at hj; omega)]; exact h16.2.2.2.2.2.2⟩, fun i x hx => by simp at hx⟩⟩
  have hj := (List.getElem?_eq_some_iff.mp he).1
  rw [List.length_range] at hj
  rw [List.getElem?_range hj] at he
  cases he
  exact hcj i hj
theorem clI_opb {S T : am_S} {rec sp : Nat} {mp fk fp : Int32} {fs xs cs : List Nat} {b : Nat → Nat} {tot : Nat} {re : jRe} {gs : List jG} {k : Int32} {pl : Nat} (h : clI S rec sp mp fk fp fs xs cs b tot re gs) (hf : fr ([1, 3, 4, 5, 6, 7, 8, 9, 10] ++ List.range' sp 191) S T) (hX : sX T fs.length k pl) (hcp : cpSh T) (hW : reW T sp) : clI T rec sp mp k (nI pl) [] xs cs b tot re gs := by
  obtain ⟨h0, h1, ⟨t0, pos, lim, idp, h2, h3⟩, ⟨fb, h4, h5⟩, h6, h7, ⟨l, A, E, h8⟩, ⟨ch, h9, h10⟩, ⟨s, P, h11, h12⟩, ⟨ty, h13, h14⟩, h15, ⟨PG, h16, h17⟩⟩ := h
  obtain ⟨pos', lim', idp', j4, j5, j6, j1⟩ := hX
  exact ⟨h0, by rw [fr_get hf (fun hj => by simp only [List.mem_append, List.mem_cons, List.not_mem_nil, or_false, List.mem_range'_1] at hj; omega)]; exact h1, ⟨_, pos', lim', idp', j1, j4, j5, j6⟩, ⟨fb, by rw [fr_get hf (fun hj => by simp only [List.mem_append, List.mem_cons, List.not_mem_nil, or_false, List.mem_range'_1] at hj; omega)]; exact h4, fun i x hx => by simp at hx⟩, hcp, hW, ⟨l, A, E, reO_fr h8 hf (fun j hj => by simp only [List.mem_append, List.mem_cons, List.not_mem_nil, or_false, List.mem_range'_1] at hj; omega)⟩, ⟨ch, by rw [fr_get hf (fun hj => by simp only [List.mem_append, List.mem_cons, List.not_mem_nil, or_false, List.mem_range'_1] at hj; omega)]; exact h9, h10⟩, ⟨s, P, flS_fr h11 hf (fun j hj => by simp only [List.mem_append, List.mem_cons, List.not_mem_nil, or_false, List.mem_range'_1] at hj; omega), h12⟩, ⟨ty, by rw [fr_get hf (fun hj => by simp only [List.mem_append, List.mem_cons, List.not_mem_nil, or_false, List.mem_range'_1] at hj; omega)]; exact h13, h14⟩, taW_fr h15 hf (fun hj => by simp only [List.mem_append, List.mem_cons, List.not_mem_nil, or_false, List.mem_range'_1] at hj; omega) (fun hj => by simp only [List.mem_append, List.mem_cons, List.not_mem_nil, or_false, List.mem_range'_1] at hj; omega), ⟨PG, grS_fr h16 hf (fun j hj => by simp only [List.mem_append, List.mem_cons, List.not_mem_nil, or_false, List.mem_range'_1] at hj; omega), h17⟩⟩
def newB (fs : List Nat) (B : Nat → Nat) (w : Nat) : Nat → Nat := fun j => if 960 * w ≤ j ∧ j < 960 * w + 960 then opB fs B w (j - 960 * w) else B j
theorem newB_lt {fs : List Nat} {B : Nat → Nat} {w : Nat} (hfs : ∀ x, x ∈ fs → x < 256) (hB : ∀ j, B j < 256) (j : Nat) : newB fs B w j < 256 := by
  unfold newB
  split
  · exact opB_lt hfs hB _
  · exact hB j
theorem newB_eq {fs : List Nat} {B : Nat → Nat} {w : Nat} {mb mb' : Nat → Int32} (h1 : ∀ j, j < 960 → mb' (960 * w + j) = nI (opB fs B w j)) (h2 : ∀ j, j < 960 * w ∨ 960 * w + 960 ≤ j → mb' j = mb j) (h3 : ∀ j, j < 1920 → mb j = nI (B j)) : ∀ j, j < 1920 → mb' j = nI (newB fs B w j) := by
  intro j hj
  unfold newB
  by_cases c : 960 * w ≤ j ∧ j < 960 * w + 960
  · rw [if_pos c, ← h1 (j - 960 * w) (by omega), show 960 * w + (j - 960 * w) = j by omega]
  · rw [if_neg c, h2 j (by omega)]
    exact h3 j hj
section LAWO
variable {X : Nat × (Nat → Int32)} {d i : Nat} {Q : am_R → Prop} {S : am_S} {x5 x6 x7 : Option Value}
set_option maxRecDepth 8192 in
set_option maxHeartbeats 2000000 in
theorem lc_open (hi : i + 4 ≤ X.1) (hL : X.1 ≤ 2048) (h : lwI S i) (hn : ∀ T y5 y6 y7, lwI T (i + 4) → wp X (d + 30) 176 852 [some (.ref 1000000), some (.ref 0), some (.ref 408), some (.ref 440), some (.int (nI i)), y5, y6, y7] [] T Q) : wp X (d + 30) 176 149 [some (.ref 1000000), some (.ref 0), some (.ref 408), some (.ref 440), some (.int (nI i)), x5, x6, x7] [] S Q := by
  obtain ⟨rec, sp, v0, mp, fk, fp, fs, xs, cs, b, tot, re, gs, B, hC, hM, hp, hO, hr⟩ := h
  obtain ⟨hfs, hfb, hx60, hxe, hcs40, hcs, hb, hB, htot, hRq, hP, hE, hcq, hgl, hgB, hev60⟩ := id hp
  obtain ⟨g0, hg0⟩ := hO
  have h0 := hC.2.1
  obtain ⟨hrs, _, ⟨t0, pos, lim, idp, h1, hbd⟩, ⟨fb, h2, hD⟩, hcp, hW, _, ⟨ch9, hch9, _⟩, _, _, _, ⟨PG, hgr, _⟩⟩ := id hC
  have hv1 : v0 ≤ 1 := by obtain ⟨I, st, li, M, E, C, K, F, ch, mb, g, P, hm, hx⟩ := hM; exact hm.2.2.1
  have hb' : ∀ j, opB fs B (1 - v0) j < 256 := opB_lt hfb hB
  have hsB : sB S (opB fs B (1 - v0)) fs.length := ⟨fb, h2, fun j hj => by
    have e1 : fs[j]? = some fs[j] := List.getElem?_eq_getElem hj
    rw [hD j fs[j] e1]
    unfold opB
    rw [e1]⟩
  iterate 2 refine wp_step rfl rfl ?_
  refine wp_c0 rfl rfl (by decide) rfl rfl rfl (h_167 h0 (q_open hb' (by omega) (by omega) h0 h1 hsB hfs hbd.1 hbd.2.1 hbd.2.2 hcp hW hch9 hgr.1 (by omega) (fun re2 l2 A2 E2 ch2 T1 e hf1 a0 hJ hcp2 hO2 hch2 hcj2 hg2 => RtI_v (by rw [fr_get hf1 (fun hj => by simp only [List.mem_append, List.mem_cons, List.not_mem_nil, or_false, List.mem_range'_1] at hj; omega)]; exact hg0) (fun T2 hf4 h4 => ?_)) (fun k pl T1 e hf1 hX1 hcp2 hW2 => RtI_e (c := 1) (by simp) ?_)))
  · have hC1 := clI_fr (clI_opo hC hf1 a0 hJ hcp2 hO2 hch2 hcj2 hg2) hf4 (fun j hj => by simp only [List.mem_cons, List.not_mem_nil, or_false] at hj; omega)
    have hM1 := moI_fr (moI_fr hM hf1 (fun j hj => by simp only [List.mem_append, List.mem_cons, List.not_mem_nil, or_false, List.mem_range'_1] at hj; omega)) hf4 (fun j hj => by simp only [List.mem_cons, List.not_mem_nil, or_false] at hj; omega)
    have hr1 := roI_fr (roI_fr hr hf1) hf4
    generalize hgg : vp_updL g0 0 (nI re2.2.1.length).toInt64 = gg at h4
    have hgv : gg 0 = (nI re2.2.1.length).toInt64 := by rw [← hgg]; exact pk_uLs
    have hE2 := evP_of hO2
    have hR2 := evR_of hO2
    have hcq2 := ckQ_of hO2
    have hQ2 := reQ_of hO2 (rdA_w hfs e)
    have h602 := hO2.2.2.2.1
    clear hO2
    obtain ⟨I, st, li, M, E, C, K, F, ch, mb, g, P, hm, hx⟩ := hM1
    obtain ⟨sz, hsz1, hsz0⟩ := hm.2.2.2.2.1
    obtain ⟨x1, x2, x3, x4, x5_, x6_, x7_, x8, x9, x10, x11, x12, x13, x14, x15, x16⟩ := id hx
    iterate 2 refine wp_step rfl rfl ?_
    refine wp_c0 rfl rfl (by decide) rfl (recv_ok hm.1 rfl) rfl (q_mopen (w := 1 - v0) (by omega) hm.1 hx.1 hm.2.1 hx.2.1 hx.2.2.1 hfs hx.2.2.2.2.2.2.2.2.2.2.2.2.2.2.1 hx.2.2.2.2.2.2.2.2.2.2.2.2.2.2.2 hfb hB hsz1 hm.2.2.2.2.2.2.2.2.2.2.2.2.2.2.2.2 hm.2.2.2.2.2.2.2.2.1 hm.2.2.2.2.2.2.2.2.2.2.1 hm.2.2.2.2.2.2.2.2.2.2.2.2.2.1 hx.2.2.2.2.2.2.2.1 (fun re3 T J li2 K2 M2 E3 C2 mb2 ch3 e2 hf hg9 a j0 j2 j3 j23 j25 j27 j28 j45 j49 hK2 hM2 hE3 hEs hEo hC2 hCs hCo hTw hTs h60 h4c hmb hmb1 hmb2 hsz2 hch3 hcj3 => ?_) (fun k2 pl2 T J li2 K2 M2 E3 C2 mb2 e2 hf hg9 a j0 j2 j23 j25 j27 j28 hK2 hM2 hE3 hEo hC2 hCo hTw hmb hmb1 hmb2 hsz2 hch3 => ?_))
    · rw [e] at e2; cases e2
      have hm2 : mRc T J st li2 (opB fs B (1 - v0)) (1 - v0) fs.length re2 M2 E3 C2 K2 := ⟨a, j3, by omega, ⟨mb2, hmb, hmb1⟩, ⟨_, hsz2, pk_us⟩, hfs, j25, j23, hM2, hTs, hE3, hEs, h60, hC2, hCs, h4c, hK2⟩
      have hx2 : moX T J st li2 F ch3 mb2 g P mp 0 (-1) [] (List.range re2.2.1.length) cs [] (newB fs B (1 - v0)) := ⟨j2, by rw [fr_get hf (by decide)]; exact x2, fun i x hx9 => by simp at hx9, j27, j28, (hg9 39 (by decide)).trans x6_, by rw [List.length_range]; exact j45, hch3, fun i e9 he => by
          have hj := (List.getElem?_eq_some_iff.mp he).1
          rw [List.length_range] at hj
          rw [List.getElem?_range hj] at he
          cases he
          exact hcj3 i hj, cmW_up x10 hf (fun j hj => by simp only [List.mem_cons, List.not_mem_nil, or_false] at hj; omega) a hg9 (by decide), by rw [fr_get hf (by decide)]; exact x11, j49, mGr_fr x13 hf (fun j hj => by simp only [List.mem_cons, List.not_mem_nil, or_false] at hj; omega), fun i x hx9 => by simp at hx9, hmb, newB_eq hmb1 hmb2 x16⟩
      have hp2 : puI [] (List.range re2.2.1.length) cs (opB fs B (1 - v0)) fs.length re2 [] (newB fs B (1 - v0)) := ⟨by decide, fun x hx9 => (by cases hx9), by rw [List.length_range]; exact h602, fun e9 he => List.mem_range.mp he, hcs40, hcs, hb', newB_lt hfb hB, hfs, hQ2, hE2, hR2, hcq2, by decide, fun x hx9 => (by cases hx9), h602⟩
      have hO2 : am_get T 440 = some (lA 1 gg) := by rw [fr_get hf (by decide)]; exact h4
      iterate 2 refine wp_step rfl rfl ?_
      refine wp_c0 rfl rfl (by decide) rfl (recv_ok hm2.1 rfl) rfl (q_mthrown hm2.1 j0 ?_)
      refine wp_step rfl rfl ?_
      refine wp_icmp_t rfl rfl ?_
      refine wp_step rfl rfl ?_
      refine wp_if_f rfl rfl ?_
      iterate 2 refine wp_step rfl rfl ?_
      refine wp_lald rfl (by decide) hO2 (by decide) ?_
      rw [show (Int32.ofInt 0).toNatClampNeg = 0 from rfl, hgv]
      iterate 3 refine wp_step rfl rfl ?_
      refine wp_if_t rfl (lg_self _) ?_
      refine wp_step rfl rfl ?_
      exact hn _ _ _ _ ⟨sp, rec, 1 - v0, mp, 0, -1, [], List.range re2.2.1.length, cs, opB fs B (1 - v0), fs.length, re2, [], newB fs B (1 - v0), clI_fr hC1 hf (fun j hj => by simp only [List.mem_cons, List.not_mem_nil, or_false] at hj; omega), ⟨J, st, li2, M2, E3, C2, K2, F, ch3, mb2, g, P, hm2, hx2⟩, hp2, ⟨_, hO2⟩, roI_up (roI_fr hr1 hf) (by omega)⟩
    · rw [e] at e2; cases e2
  · have hC0 := clI_opb hC hf1 hX1 hcp2 hW2
    have hM0 := moI_fr hM hf1 (fun j hj => by simp only [List.mem_append, List.mem_cons, List.not_mem_nil, or_false, List.mem_range'_1] at hj; omega)
    have hC1 : clI (am_thrown T1) rec sp mp k (nI pl) [] xs cs b tot re gs := hC0
    have hM1 : moI (am_thrown T1) v0 mp fk fp fs xs cs b tot re gs B := hM0
    have hr1 := roI_thr (roI_fr hr hf1)
    have h4 : am_get (am_thrown T1) 440 = some (lA 1 g0) := by
      show am_get T1 440 = _
      rw [fr_get hf1 (fun hj => by simp only [List.mem_append, List.mem_cons, List.not_mem_nil, or_false, List.mem_range'_1] at hj; omega)]
      exact hg0
    generalize am_thrown T1 = S9 at hC1 hM1 hr1 h4 ⊢
    obtain ⟨I, st, li, M, E, C, K, F, ch, mb, g, P, hm, hx⟩ := hM1
    obtain ⟨sz, hsz1, hsz0⟩ := hm.2.2.2.2.1
    obtain ⟨x1, x2, x3, x4, x5_, x6_, x7_, x8, x9, x10, x11, x12, x13, x14, x15, x16⟩ := id hx
    iterate 2 refine wp_step rfl rfl ?_
    refine wp_c0 rfl rfl (by decide) rfl (recv_ok hm.1 rfl) rfl (q_mopen (w := 1 - v0) (by omega) hm.1 hx.1 hm.2.1 hx.2.1 hx.2.2.1 hfs hx.2.2.2.2.2.2.2.2.2.2.2.2.2.2.1 hx.2.2.2.2.2.2.2.2.2.2.2.2.2.2.2 hfb hB hsz1 hm.2.2.2.2.2.2.2.2.2.2.2.2.2.2.2.2 hm.2.2.2.2.2.2.2.2.1 hm.2.2.2.2.2.2.2.2.2.2.1 hm.2.2.2.2.2.2.2.2.2.2.2.2.2.1 hx.2.2.2.2.2.2.2.1 (fun re3 T J li2 K2 M2 E3 C2 mb2 ch3 e2 hf hg9 a j0 j2 j3 j23 j25 j27 j28 j45 j49 hK2 hM2 hE3 hEs hEo hC2 hCs hCo hTw hTs h60 h4c hmb hmb1 hmb2 hsz2 hch3 hcj3 => ?_) (fun k2 pl2 T J li2 K2 M2 E3 C2 mb2 e2 hf hg9 a j0 j2 j23 j25 j27 j28 hK2 hM2 hE3 hEo hC2 hCo hTw hmb hmb1 hmb2 hsz2 hch3 => ?_))
    · rw [e] at e2; cases e2
    · rw [e] at e2; cases e2
      obtain ⟨b1, b2, b3, ⟨mb0, b4, b5⟩, _, b7, b8, b9, b10, b11, b12, b13, b14, b15, b16, b17, b18⟩ := id hm
      rw [x15] at b4
      cases b4
      have hm2 : mRc T J st li2 b v0 tot re M2 E3 C2 K2 := ⟨a, (hg9 3 (by decide)).trans b2, b3, ⟨mb2, hmb, fun j hj => by rw [hmb2 (960 * v0 + j) (by omega)]; exact b5 j hj⟩, ⟨_, hsz2, (pk_un (by omega)).trans hsz0⟩, b7, j25, j23, hM2, fun c ck hck => ⟨hTw (4 * v0 + c) ck.2.2.1 (by have := (List.getElem?_eq_some_iff.mp hck).1; omega) (b11 c ck hck).2.1 (b11 c ck hck).1, (b11 c ck hck).2⟩, hE3, ⟨(hEo.1 v0 (by omega)).trans b13.1, fun c y9 hy9 => by
          have hcl := (List.getElem?_eq_some_iff.mp hy9).1
          obtain ⟨q1, q2⟩ := hEo.2 (60 * v0 + c) (by omega)
          rw [q1, q2]
          exact b13.2 c y9 hy9⟩, b14, hC2, ⟨(hCo.1 v0 (by omega)).trans b16.1, fun c ck hck => by
          have hcl := (List.getElem?_eq_some_iff.mp hck).1
          rw [hCo.2 (4 * v0 + c) (by omega)]
          exact b16.2 c ck hck⟩, b17, hK2⟩
      have hx2 : moX T J st li2 F ch mb2 g P mp k (nI pl) [] xs cs gs (newB fs B (1 - v0)) := ⟨j2, by rw [fr_get hf (by decide)]; exact x2, fun i x hx9 => by simp at hx9, j27, j28, (hg9 39 (by decide)).trans x6_, (hg9 45 (by decide)).trans x7_, hch3, x9, cmW_up x10 hf (fun j hj => by simp only [List.mem_cons, List.not_mem_nil, or_false] at hj; omega) a hg9 (by decide), by rw [fr_get hf (by decide)]; exact x11, (hg9 49 (by decide)).trans x12, mGr_fr x13 hf (fun j hj => by simp only [List.mem_cons, List.not_mem_nil, or_false] at hj; omega), x14, hmb, newB_eq hmb1 hmb2 x16⟩
      have hp2 : puI [] xs cs b tot re gs (newB fs B (1 - v0)) := ⟨by decide, fun x hx9 => (by cases hx9), hx60, hxe, hcs40, hcs, hb, newB_lt hfb hB, htot, hRq, hP, hE, hcq, hgl, hgB, hev60⟩
      have hO2 : am_get T 440 = some (lA 1 g0) := by rw [fr_get hf (by decide)]; exact h4
      iterate 2 refine wp_step rfl rfl ?_
      refine wp_c0 rfl rfl (by decide) rfl (recv_ok hm2.1 rfl) rfl (q_mthrown hm2.1 j0 ?_)
      refine wp_step rfl rfl ?_
      refine wp_icmp_t rfl rfl ?_
      refine wp_step rfl rfl ?_
      refine wp_if_t rfl rfl ?_
      refine wp_step rfl rfl ?_
      exact hn _ _ _ _ ⟨rec, sp, v0, mp, k, nI pl, [], xs, cs, b, tot, re, gs, newB fs B (1 - v0), clI_fr hC1 hf (fun j hj => by simp only [List.mem_cons, List.not_mem_nil, or_false] at hj; omega), ⟨J, st, li2, M2, E3, C2, K2, F, ch, mb2, g, P, hm2, hx2⟩, hp2, ⟨_, hO2⟩, roI_up (roI_fr hr1 hf) (by omega)⟩
set_option maxRecDepth 8192 in
set_option maxHeartbeats 2000000 in
theorem lc_select (hi : i + 4 ≤ X.1) (hL : X.1 ≤ 2048) (h : lwI S i) (hn : ∀ T y5 y6 y7, lwI T (i + 4) → wp X (d + 30) 176 852 [some (.ref 1000000), some (.ref 0), some (.ref 408), some (.ref 440), some (.int (nI i)), y5, y6, y7] [] T Q) : wp X (d + 30) 176 540 [some (.ref 1000000), some (.ref 0), some (.ref 408), some (.ref 440), some (.int (nI i)), x5, x6, x7] [] S Q := by
  obtain ⟨rec, sp, v0, mp, fk, fp, fs, xs, cs, b, tot, re, gs, B, hC, hM, hp, hO, hr⟩ := h
  obtain ⟨hfs, hfb, hx60, hxe, hcs40, hcs, hb, hB, htot, hRq, hP, hE, hcq, hgl, hgB, hev60⟩ := id hp
  obtain ⟨g0, hg0⟩ := hO
  have h0 := hC.2.1
  obtain ⟨l9, A9, E9, hcl⟩ := clI_R (T := S) hC
  obtain ⟨_, _, _, _, _, _, _, ⟨ch9, hch1, hch2⟩, ⟨s9, P9, hfl, hdg⟩, ⟨ty9, hty, htD⟩, _, ⟨PG, hgr, _⟩⟩ := id hC
  have hcs65 : ∀ c, c ∈ cs → c < 65536 := fun c hc => by have := hcs c hc; omega
  iterate 5 refine wp_step rfl rfl ?_
  rw [show nI i + Int32.ofInt 1 = nI (i + 1) from nI_add i 1]
  refine wp_sld rfl (am_in_nI (by omega) (by omega)) ?_
  rw [nI_clamp (by omega)]
  by_cases hz : X.2 (i + 1) = 0
  · refine wp_if_t rfl (decide_eq_true hz) ?_
    iterate 2 refine wp_step rfl rfl ?_
    refine wp_c0 rfl rfl (by decide) rfl rfl rfl (h_172 (p0 := bI false) h0 (q_select (fb := false) hcl hch1 hch2 hxe hx60 hfl hdg hcs40 hty htD hcs65 hgr.1 (fun k T1 e hf1 a0 hfl2 => RtI_e (c := 1) (by simp) ?_) (fun nm cm ys ch2 T1 e ey hf1 a0 hfl2 hch3 hys hg2 => RtI_v (by rw [fr_get hf1 (by decide)]; exact hg0) (fun T2 hf4 h4 => ?_))))
    · have hC0 := clI_selb hC hf1 a0 hfl2
      have hM0 := moI_fr hM hf1 (fun j hj => by simp only [List.mem_cons, List.not_mem_nil, or_false] at hj; omega)
      have hC1 : clI (am_thrown T1) rec sp (nI k) fk fp fs xs [] b tot re gs := hC0
      have hM1 : moI (am_thrown T1) v0 mp fk fp fs xs cs b tot re gs B := hM0
      have hr1 := roI_thr (roI_fr hr hf1)
      have h4 : am_get (am_thrown T1) 440 = some (lA 1 g0) := by
        show am_get T1 440 = _
        rw [fr_get hf1 (by decide)]
        exact hg0
      generalize am_thrown T1 = S9 at hC1 hM1 hr1 h4 ⊢
      obtain ⟨I, st, li, M, E, C, K, F, ch, mb, g, P, hm, hx⟩ := hM1
      obtain ⟨x1, x2, x3, x4, x5_, x6_, x7_, x8, x9, x10, x11, x12, x13, x14, x15, x16⟩ := id hx
      iterate 6 refine wp_step rfl rfl ?_
      rw [show nI i + Int32.ofInt 1 = nI (i + 1) from nI_add i 1]
      refine wp_sld rfl (am_in_nI (by omega) (by omega)) ?_
      rw [nI_clamp (by omega)]
      refine wp_if_t rfl (decide_eq_true hz) ?_
      refine wp_step rfl rfl ?_
      refine wp_c0 rfl rfl (by decide) rfl (recv_ok hm.1 rfl) rfl (q_mselect (fb := false) hb hRq hP hE hm x10 x7_ x8 x9 hxe hx60 (fun k2 T J st2 li2 K2 e2 hf hg9 hm2 j0 j39 hW2 => ?_) (fun nm2 cm2 ys2 ch4 T J st2 li2 K2 e2 ey2 hf hg9 hm2 j0 j39 j45 j49 hch4 hys2 hW2 => ?_))
      · rw [e] at e2; cases e2
        have hx2 : moX T J st2 li2 F ch mb g P (nI k) fk fp fs xs [] gs B := ⟨(hg9 2 (by decide)).trans x1, by rw [fr_get hf (by decide)]; exact x2, x3, (hg9 27 (by decide)).trans x4, (hg9 28 (by decide)).trans x5_, j39, (hg9 45 (by decide)).trans x7_, by rw [fr_get hf (by decide)]; exact x8, x9, hW2, by rw [fr_get hf (by decide)]; exact x11, (hg9 49 (by decide)).trans x12, mGr_fr x13 hf (fun j hj => by simp only [List.mem_cons, List.not_mem_nil, or_false] at hj; omega), x14, by rw [fr_get hf (by decide)]; exact x15, x16⟩
        have hp2 : puI fs xs [] b tot re gs B := ⟨hfs, hfb, hx60, hxe, by decide, fun c hc => (by cases hc), hb, hB, htot, hRq, hP, hE, hcq, hgl, hgB, hev60⟩
        have hO2 : am_get T 440 = some (lA 1 g0) := by rw [fr_get hf (by decide)]; exact h4
        iterate 2 refine wp_step rfl rfl ?_
        refine wp_c0 rfl rfl (by decide) rfl (recv_ok hm2.1 rfl) rfl (q_mthrown hm2.1 j0 ?_)
        refine wp_step rfl rfl ?_
        refine wp_icmp_t rfl rfl ?_
        refine wp_step rfl rfl ?_
        refine wp_if_t rfl rfl ?_
        refine wp_step rfl rfl ?_
        exact hn _ _ _ _ ⟨rec, sp, v0, nI k, fk, fp, fs, xs, [], b, tot, re, gs, B, clI_fr hC1 hf (fun j hj => by simp only [List.mem_cons, List.not_mem_nil, or_false] at hj; omega), ⟨J, st2, li2, M, E, C, K2, F, ch, mb, g, P, hm2, hx2⟩, hp2, ⟨_, hO2⟩, roI_up (roI_fr hr1 hf) (by omega)⟩
      · rw [e] at e2; cases e2
    · have hC1 := clI_fr (clI_selg hC hf1 a0 hfl2 hch3 hys hg2) hf4 (fun j hj => by simp only [List.mem_cons, List.not_mem_nil, or_false] at hj; omega)
      have hM1 := moI_fr (moI_fr hM hf1 (fun j hj => by simp only [List.mem_cons, List.not_mem_nil, or_false] at hj; omega)) hf4 (fun j hj => by simp only [List.mem_cons, List.not_mem_nil, or_false] at hj; omega)
      have hr1 := roI_fr (roI_fr hr hf1) hf4
      generalize hgg : vp_updL g0 0 (nI ys.length).toInt64 = gg at h4
      have hgv : gg 0 = (nI ys.length).toInt64 := by rw [← hgg]; exact pk_uLs
      obtain ⟨I, st, li, M, E, C, K, F, ch, mb, g, P, hm, hx⟩ := hM1
      obtain ⟨x1, x2, x3, x4, x5_, x6_, x7_, x8, x9, x10, x11, x12, x13, x14, x15, x16⟩ := id hx
      iterate 6 refine wp_step rfl rfl ?_
      rw [show nI i + Int32.ofInt 1 = nI (i + 1) from nI_add i 1]
      refine wp_sld rfl (am_in_nI (by omega) (by omega)) ?_
      rw [nI_clamp (by omega)]
      refine wp_if_t rfl (decide_eq_true hz) ?_
      refine wp_step rfl rfl ?_
      refine wp_c0 rfl rfl (by decide) rfl (recv_ok hm.1 rfl) rfl (q_mselect (fb := false) hb hRq hP hE hm x10 x7_ x8 x9 hxe hx60 (fun k2 T J st2 li2 K2 e2 hf hg9 hm2 j0 j39 hW2 => ?_) (fun nm2 cm2 ys2 ch4 T J st2 li2 K2 e2 ey2 hf hg9 hm2 j0 j39 j45 j49 hch4 hys2 hW2 => ?_))
      · rw [e] at e2; cases e2
      · rw [e] at e2; cases e2
        rw [← ey] at ey2
        subst ey2
        have hyl : ys2.length ≤ 60 ∧ ∀ e9, e9 ∈ ys2 → e9 < re.2.1.length := by
          rw [ey]
          refine ⟨Nat.le_trans (List.length_filter_le _ _) ?_, fun e9 he => ?_⟩
          · exact hx60
          · have h9 := (List.mem_filter.mp he).1
            exact hxe e9 h9
        have hx2 : moX T J st2 li2 F ch4 mb g P (-1) fk fp fs ys2 [] [] B := ⟨(hg9 2 (by decide)).trans x1, by rw [fr_get hf (by decide)]; exact x2, x3, (hg9 27 (by decide)).trans x4, (hg9 28 (by decide)).trans x5_, j39, j45, hch4, hys2, hW2, by rw [fr_get hf (by decide)]; exact x11, j49, mGr_fr x13 hf (fun j hj => by simp only [List.mem_cons, List.not_mem_nil, or_false] at hj; omega), fun i x hx9 => by simp at hx9, by rw [fr_get hf (by decide)]; exact x15, x16⟩
        have hp2 : puI fs ys2 [] b tot re [] B := ⟨hfs, hfb, hyl.1, hyl.2, by decide, fun c hc => (by cases hc), hb, hB, htot, hRq, hP, hE, hcq, by decide, fun x hx9 => (by cases hx9), hev60⟩
        have hO2 : am_get T 440 = some (lA 1 gg) := by rw [fr_get hf (by decide)]; exact h4
        iterate 2 refine wp_step rfl rfl ?_
        refine wp_c0 rfl rfl (by decide) rfl (recv_ok hm2.1 rfl) rfl (q_mthrown hm2.1 j0 ?_)
        refine wp_step rfl rfl ?_
        refine wp_icmp_t rfl rfl ?_
        refine wp_step rfl rfl ?_
        refine wp_if_f rfl rfl ?_
        iterate 2 refine wp_step rfl rfl ?_
        refine wp_lald rfl (by decide) hO2 (by decide) ?_
        rw [show (Int32.ofInt 0).toNatClampNeg = 0 from rfl, hgv]
        iterate 3 refine wp_step rfl rfl ?_
        refine wp_if_t rfl (lg_self _) ?_
        refine wp_step rfl rfl ?_
        exact hn _ _ _ _ ⟨rec, sp, v0, -1, fk, fp, fs, ys2, [], b, tot, re, [], B, clI_fr hC1 hf (fun j hj => by simp only [List.mem_cons, List.not_mem_nil, or_false] at hj; omega), ⟨J, st2, li2, M, E, C, K2, F, ch4, mb, g, P, hm2, hx2⟩, hp2, ⟨_, hO2⟩, roI_up (roI_fr hr1 hf) (by omega)⟩
  · refine wp_if_f rfl (decide_eq_false hz) ?_
    iterate 3 refine wp_step rfl rfl ?_
    refine wp_c0 rfl rfl (by decide) rfl rfl rfl (h_172 (p0 := bI true) h0 (q_select (fb := true) hcl hch1 hch2 hxe hx60 hfl hdg hcs40 hty htD hcs65 hgr.1 (fun k T1 e hf1 a0 hfl2 => RtI_e (c := 1) (by simp) ?_) (fun nm cm ys ch2 T1 e ey hf1 a0 hfl2 hch3 hys hg2 => RtI_v (by rw [fr_get hf1 (by decide)]; exact hg0) (fun T2 hf4 h4 => ?_))))
    · have hC0 := clI_selb hC hf1 a0 hfl2
      have hM0 := moI_fr hM hf1 (fun j hj => by simp only [List.mem_cons, List.not_mem_nil, or_false] at hj; omega)
      have hC1 : clI (am_thrown T1) rec sp (nI k) fk fp fs xs [] b tot re gs := hC0
      have hM1 : moI (am_thrown T1) v0 mp fk fp fs xs cs b tot re gs B := hM0
      have hr1 := roI_thr (roI_fr hr hf1)
      have h4 : am_get (am_thrown T1) 440 = some (lA 1 g0) := by
        show am_get T1 440 = _
        rw [fr_get hf1 (by decide)]
        exact hg0
      generalize am_thrown T1 = S9 at hC1 hM1 hr1 h4 ⊢
      obtain ⟨I, st, li, M, E, C, K, F, ch, mb, g, P, hm, hx⟩ := hM1
      obtain ⟨x1, x2, x3, x4, x5_, x6_, x7_, x8, x9, x10, x11, x12, x13, x14, x15, x16⟩ := id hx
      iterate 6 refine wp_step rfl rfl ?_
      rw [show nI i + Int32.ofInt 1 = nI (i + 1) from nI_add i 1]
      refine wp_sld rfl (am_in_nI (by omega) (by omega)) ?_
      rw [nI_clamp (by omega)]
      refine wp_if_f rfl (decide_eq_false hz) ?_
      iterate 2 refine wp_step rfl rfl ?_
      refine wp_c0 rfl rfl (by decide) rfl (recv_ok hm.1 rfl) rfl (q_mselect (fb := true) hb hRq hP hE hm x10 x7_ x8 x9 hxe hx60 (fun k2 T J st2 li2 K2 e2 hf hg9 hm2 j0 j39 hW2 => ?_) (fun nm2 cm2 ys2 ch4 T J st2 li2 K2 e2 ey2 hf hg9 hm2 j0 j39 j45 j49 hch4 hys2 hW2 => ?_))
      · rw [e] at e2; cases e2
        have hx2 : moX T J st2 li2 F ch mb g P (nI k) fk fp fs xs [] gs B := ⟨(hg9 2 (by decide)).trans x1, by rw [fr_get hf (by decide)]; exact x2, x3, (hg9 27 (by decide)).trans x4, (hg9 28 (by decide)).trans x5_, j39, (hg9 45 (by decide)).trans x7_, by rw [fr_get hf (by decide)]; exact x8, x9, hW2, by rw [fr_get hf (by decide)]; exact x11, (hg9 49 (by decide)).trans x12, mGr_fr x13 hf (fun j hj => by simp only [List.mem_cons, List.not_mem_nil, or_false] at hj; omega), x14, by rw [fr_get hf (by decide)]; exact x15, x16⟩
        have hp2 : puI fs xs [] b tot re gs B := ⟨hfs, hfb, hx60, hxe, by decide, fun c hc => (by cases hc), hb, hB, htot, hRq, hP, hE, hcq, hgl, hgB, hev60⟩
        have hO2 : am_get T 440 = some (lA 1 g0) := by rw [fr_get hf (by decide)]; exact h4
        iterate 2 refine wp_step rfl rfl ?_
        refine wp_c0 rfl rfl (by decide) rfl (recv_ok hm2.1 rfl) rfl (q_mthrown hm2.1 j0 ?_)
        refine wp_step rfl rfl ?_
        refine wp_icmp_t rfl rfl ?_
        refine wp_step rfl rfl ?_
        refine wp_if_t rfl rfl ?_
        refine wp_step rfl rfl ?_
        exact hn _ _ _ _ ⟨rec, sp, v0, nI k, fk, fp, fs, xs, [], b, tot, re, gs, B, clI_fr hC1 hf (fun j hj => by simp only [List.mem_cons, List.not_mem_nil, or_false] at hj; omega), ⟨J, st2, li2, M, E, C, K2, F, ch, mb, g, P, hm2, hx2⟩, hp2, ⟨_, hO2⟩, roI_up (roI_fr hr1 hf) (by omega)⟩
      · rw [e] at e2; cases e2
    · have hC1 := clI_fr (clI_selg hC hf1 a0 hfl2 hch3 hys hg2) hf4 (fun j hj => by simp only [List.mem_cons, List.not_mem_nil, or_false] at hj; omega)
      have hM1 := moI_fr (moI_fr hM hf1 (fun j hj => by simp only [List.mem_cons, List.not_mem_nil, or_false] at hj; omega)) hf4 (fun j hj => by simp only [List.mem_cons, List.not_mem_nil, or_false] at hj; omega)
      have hr1 := roI_fr (roI_fr hr hf1) hf4
      generalize hgg : vp_updL g0 0 (nI ys.length).toInt64 = gg at h4
      have hgv : gg 0 = (nI ys.length).toInt64 := by rw [← hgg]; exact pk_uLs
      obtain ⟨I, st, li, M, E, C, K, F, ch, mb, g, P, hm, hx⟩ := hM1
      obtain ⟨x1, x2, x3, x4, x5_, x6_, x7_, x8, x9, x10, x11, x12, x13, x14, x15, x16⟩ := id hx
      iterate 6 refine wp_step rfl rfl ?_
      rw [show nI i + Int32.ofInt 1 = nI (i + 1) from nI_add i 1]
      refine wp_sld rfl (am_in_nI (by omega) (by omega)) ?_
      rw [nI_clamp (by omega)]
      refine wp_if_f rfl (decide_eq_false hz) ?_
      iterate 2 refine wp_step rfl rfl ?_
      refine wp_c0 rfl rfl (by decide) rfl (recv_ok hm.1 rfl) rfl (q_mselect (fb := true) hb hRq hP hE hm x10 x7_ x8 x9 hxe hx60 (fun k2 T J st2 li2 K2 e2 hf hg9 hm2 j0 j39 hW2 => ?_) (fun nm2 cm2 ys2 ch4 T J st2 li2 K2 e2 ey2 hf hg9 hm2 j0 j39 j45 j49 hch4 hys2 hW2 => ?_))
      · rw [e] at e2; cases e2
      · rw [e] at e2; cases e2
        rw [← ey] at ey2
        subst ey2
        have hyl : ys2.length ≤ 60 ∧ ∀ e9, e9 ∈ ys2 → e9 < re.2.1.length := by
          rw [ey]
          refine ⟨Nat.le_trans (List.length_filter_le _ _) ?_, fun e9 he => ?_⟩
          · rw [if_pos rfl, List.length_range]; exact hev60
          · have h9 := (List.mem_filter.mp he).1
            rw [if_pos rfl] at h9; exact List.mem_range.mp h9
        have hx2 : moX T J st2 li2 F ch4 mb g P (-1) fk fp fs ys2 [] [] B := ⟨(hg9 2 (by decide)).trans x1, by rw [fr_get hf (by decide)]; exact x2, x3, (hg9 27 (by decide)).trans x4, (hg9 28 (by decide)).trans x5_, j39, j45, hch4, hys2, hW2, by rw [fr_get hf (by decide)]; exact x11, j49, mGr_fr x13 hf (fun j hj => by simp only [List.mem_cons, List.not_mem_nil, or_false] at hj; omega), fun i x hx9 => by simp at hx9, by rw [fr_get hf (by decide)]; exact x15, x16⟩
        have hp2 : puI fs ys2 [] b tot re [] B := ⟨hfs, hfb, hyl.1, hyl.2, by decide, fun c hc => (by cases hc), hb, hB, htot, hRq, hP, hE, hcq, by decide, fun x hx9 => (by cases hx9), hev60⟩
        have hO2 : am_get T 440 = some (lA 1 gg) := by rw [fr_get hf (by decide)]; exact h4
        iterate 2 refine wp_step rfl rfl ?_
        refine wp_c0 rfl rfl (by decide) rfl (recv_ok hm2.1 rfl) rfl (q_mthrown hm2.1 j0 ?_)
        refine wp_step rfl rfl ?_
        refine wp_icmp_t rfl rfl ?_
        refine wp_step rfl rfl ?_
        refine wp_if_f rfl rfl ?_
        iterate 2 refine wp_step rfl rfl ?_
        refine wp_lald rfl (by decide) hO2 (by decide) ?_
        rw [show (Int32.ofInt 0).toNatClampNeg = 0 from rfl, hgv]
        iterate 3 refine wp_step rfl rfl ?_
        refine wp_if_t rfl (lg_self _) ?_
        refine wp_step rfl rfl ?_
        exact hn _ _ _ _ ⟨rec, sp, v0, -1, fk, fp, fs, ys2, [], b, tot, re, [], B, clI_fr hC1 hf (fun j hj => by simp only [List.mem_cons, List.not_mem_nil, or_false] at hj; omega), ⟨J, st2, li2, M, E, C, K2, F, ch4, mb, g, P, hm2, hx2⟩, hp2, ⟨_, hO2⟩, roI_up (roI_fr hr1 hf) (by omega)⟩
end LAWO
