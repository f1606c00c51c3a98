/-! one step of the small machine is one of the machine: instructions that read or change the heap -/
section AMH
variable {p : Program} {l : Launch} {e : Env} {R : Room} {s : State} {m : MethodId} {args : Array Value} {below : List Frame} {meth : Method} {c : Code} {H : Heap} {locs : List Loc} {cells slots : Nat} {Q : State → Prop}
variable {M : Nat → am_M} {G : am_G} {k pc : Nat} {ls : Array Slot}
theorem am_bysize {g : JFrame} (h : H.size ≤ s.heap.size + cells → W p l e R s m args below meth c H locs cells slots Q g) : W p l e R s m args below meth c H locs cells slots Q g :=
  fun T hT X => h (by rw [← hT]; exact X.heapSize) T hT X
theorem am_eqW {n1 n2 m1 m2 : Nat} {g : JFrame} (h1 : n1 = n2) (h2 : m1 = m2) (h : W p l e R s m args below meth c H locs n1 m1 Q g) : W p l e R s m args below meth c H locs n2 m2 Q g := by subst h1; subst h2; exact h
set_option maxHeartbeats 4000000 in
theorem am_step_getf (C : am_ctx M G p s m args meth c k) {x a b w : Nat} {cst : Int} {L : am_L} {st : List Value} {S : am_S} {q : am_F}
    (hchk : am_chk M k pc (.getfield x, 3, a, b, w, cst) = true) (hstep : am_getf a b (pc + 3) L st S = some q) (hw : am_world G S H) (hS : va_S (am_A G) s.heap H locs)
    (kk : q.2.1 = L → q.2.2.2 = S → W p l e R s m args below meth c H locs cells slots Q (F0 m q.1 ls (q.2.2.1.map (am_v G)))) :
    W p l e R s m args below meth c H locs cells slots Q (F0 m pc ls (st.map (am_v G))) := by
  obtain ⟨hx, hb, hml, hown, hgw, henv, hnm⟩ := C
  obtain ⟨hd, -, hc2⟩ := am_chk_sp hchk
  unfold am_getf at hstep
  split at hstep
  · rename_i o r
    split at hstep
    · rename_i c1 fs hg
      obtain ⟨ho, hcell⟩ := am_get_inv hg
      split at hstep
      · rename_i hca
        subst hca
        split at hstep
        · rename_i v hv
          cases hstep
          simp only [am_chk2] at hc2
          split at hc2
          · rename_i cq hcq
            rw [Bool.and_eq_true] at hc2
            obtain ⟨hw1, hb1⟩ := hc2
            obtain ⟨hu, -, -, -, -⟩ := am_cls hcq
            have he : (am_ws G S)[o]? = some (am_b0 G + o, .inr (c1, fs.map (am_v G))) := by rw [am_ws_at ho, hcell]; rfl
            have had : am_ad G o = am_b0 G + o := am_ad_low (by have := hw.2; omega)
            show W p l e R s m args below meth c H locs cells slots Q (F0 m pc ls (.ref (am_ad G o) :: r.map (am_v G)))
            rw [had]
            exact va_get (D := G.1) (ci := c1) (v := am_v G v) hx hb hgw hu hown henv.1 hw.1 o he hcq b (of_decide_eq_true hb1) (hgw _ (am_word_gw hw1 rfl)) (fun _ h9 => h9) (by rw [List.getElem?_map, hv]; rfl) hd (kk rfl rfl)
          · cases hc2
        · cases hstep
      · cases hstep
    · cases hstep
  · cases hstep
set_option maxHeartbeats 4000000 in
theorem am_step_putf (C : am_ctx M G p s m args meth c k) {x a b w : Nat} {cst : Int} {L : am_L} {st : List Value} {S : am_S} {q : am_F}
    (hchk : am_chk M k pc (.putfield x, 3, a, b, w, cst) = true) (hstep : am_putf a b (pc + 3) L st S = some q) (hw : am_world G S H) (hS : va_S (am_A G) s.heap H locs)
    (kk : ∀ H' locs', q.2.1 = L → am_world G q.2.2.2 H' → va_S (am_A G) s.heap H' locs' → W p l e R s m args below meth c H' locs' cells slots Q (F0 m q.1 ls (q.2.2.1.map (am_v G)))) :
    W p l e R s m args below meth c H locs cells slots Q (F0 m pc ls (st.map (am_v G))) := by
  obtain ⟨hx, hb, hml, hown, hgw, henv, hnm⟩ := C
  obtain ⟨hd, -, hc2⟩ := am_chk_sp hchk
  unfold am_putf at hstep
  split at hstep
  · rename_i v o r
    split at hstep
    · rename_i c1 fs hg
      obtain ⟨ho, hcell⟩ := am_get_inv hg
      split at hstep
      · rename_i hca
        obtain ⟨hca, hlen, hnar, hfit⟩ := hca
        subst hca
        cases hstep
        simp only [am_chk2] at hc2
        split at hc2
        · rename_i cq hcq
          rw [Bool.and_eq_true, Bool.and_eq_true] at hc2
          obtain ⟨⟨hw1, hb1⟩, hf1⟩ := hc2
          obtain ⟨hu, hty, hnms, -, -⟩ := am_cls hcq
          have he : (am_ws G S)[o]? = some (am_b0 G + o, .inr (c1, fs.map (am_v G))) := by rw [am_ws_at ho, hcell]; rfl
          have had : am_ad G o = am_b0 G + o := am_ad_low (by have := hw.2; omega)
          have hset : (am_ws G S).set o (am_b0 G + o, .inr (c1, (fs.map (am_v G)).set b (am_v G v))) = am_ws G (am_upd S o (.inr (c1, fs.set b v))) := by
            rw [← am_ws_upd _ ho]
            simp only [am_e, List.map_set]
          show W p l e R s m args below meth c H locs cells slots Q (F0 m pc ls (am_v G v :: .ref (am_ad G o) :: r.map (am_v G)))
          rw [had]
          cases hfin : (cq.2.1 b).2.2.2 with
          | false =>
            refine va_put (D := G.1) (ci := c1) (v := am_v G v) hx hb hgw hu (am_fty c1) hty hnms hown henv.1 hw.1 (am_ws_D G S) hS o he hcq b (of_decide_eq_true hb1) (hgw _ (am_word_gw hw1 rfl)) (fun _ h9 => h9) hfin (hty b (of_decide_eq_true hb1)) (am_v_narrow hnar) (am_v_fits hfit) (by rw [List.length_map]; exact hlen) hd (fun H1 locs1 hP1 hD1 hS1 => ?_)
            rw [hset] at hP1
            exact kk H1 locs1 rfl ⟨hP1, hw.2⟩ hS1
          | true =>
            rw [hfin] at hf1
            simp only [Bool.not_true, Bool.false_or, Bool.and_eq_true, decide_eq_true_eq] at hf1
            refine va_putF (D := G.1) (ci := c1) (v := am_v G v) hx hb hgw hu (am_fty c1) hty hnms hown henv.1 hw.1 (am_ws_D G S) hS o he hcq b (of_decide_eq_true hb1) (hgw _ (am_word_gw hw1 rfl)) (fun _ h9 => h9) hfin (hnm.trans hf1.1) hf1.2 (hty b (of_decide_eq_true hb1)) (am_v_narrow hnar) (am_v_fits hfit) (by rw [List.length_map]; exact hlen) hd (fun H1 locs1 hP1 hD1 hS1 => ?_)
            rw [hset] at hP1
            exact kk H1 locs1 rfl ⟨hP1, hw.2⟩ hS1
        · cases hc2
      · cases hstep
    · cases hstep
  · cases hstep
/-- what is read of an array -/
theorem am_step_aload (C : am_ctx M G p s m args meth c k) {op : Instr} {t a b w : Nat} {cst : Int} {L : am_L} {st : List Value} {S : am_S} {q : am_F}
    (hop : (op = .iaload ∧ t = 0) ∨ (op = .laload ∧ t = 1) ∨ (op = .baload ∧ t = 2) ∨ (op = .caload ∧ t = 3) ∨ (op = .aaload ∧ t = 4))
    (hchk : am_chk M k pc (op, 1, a, b, w, cst) = true) (hstep : am_aload t (pc + 1) L st S (am_X G) = some q) (hw : am_world G S H) (hS : va_S (am_A G) s.heap H locs)
    (kk : q.2.1 = L → q.2.2.2 = S → W p l e R s m args below meth c H locs cells slots Q (F0 m q.1 ls (q.2.2.1.map (am_v G)))) :
    W p l e R s m args below meth c H locs cells slots Q (F0 m pc ls (st.map (am_v G))) := by
  obtain ⟨hx, hb, hml, hown, hgw, henv, hnm⟩ := C
  obtain ⟨hd, -, -⟩ := am_chk_sp hchk
  dsimp only at hd
  unfold am_aload at hstep
  split at hstep
  · rename_i j o r
    split at hstep
    · rename_i n f hro
      split at hstep
      · rename_i ht
        obtain ⟨rfl, hj⟩ := ht
        cases hstep
        rcases hop with ⟨rfl, -⟩ | ⟨-, h9⟩ | ⟨-, h9⟩ | ⟨-, h9⟩ | ⟨-, h9⟩
        · unfold am_ro at hro
          split at hro
          · rename_i ho
            subst ho
            have e := Option.some.inj hro
            have hX := henv.2.2.2.1
            rw [e] at hX
            exact va_sld hx hb hX.1 (Nat.lt_of_lt_of_le hX.2 henv.2.2.2.2.2.2.2.1) (fun h9 => absurd (show am_b0 G ≤ G.2.2.2.1 from h9) (Nat.not_le.mpr hX.2)) hS (am_in_vp hj) hd (kk rfl rfl)
          · split at hro
            · rename_i ho
              subst ho
              have e := Option.some.inj hro
              have hX := henv.2.2.2.2.1
              cases e
              exact va_ti hx hb hX.2.1 hS (am_in_vp hj) rfl hd (kk rfl rfl)
            · cases hro
        all_goals exact absurd h9 (by decide)
      · cases hstep
    · rename_i hro
      have had : ∀ {x : am_C}, am_get S o = some x → am_ad G o = am_b0 G + o := fun hg => am_ad_low (by have := hw.2; have := (am_get_inv hg).1; omega)
      split at hstep
      · rename_i u n f hg
        obtain ⟨ho, hcell⟩ := am_get_inv hg
        split at hstep
        · rename_i ht
          obtain ⟨rfl, ht1, ht4, hj⟩ := ht
          cases hstep
          have he : (am_ws G S)[o]? = some (am_b0 G + o, .inl (G.2.1 u, n, .inl f)) := by rw [am_ws_at ho, hcell]; rfl
          show W p l e R s m args below meth c H locs cells slots Q (F0 m pc ls (.int j :: .ref (am_ad G o) :: r.map (am_v G)))
          rw [had hg]
          rcases hop with ⟨rfl, rfl⟩ | ⟨-, rfl⟩ | ⟨rfl, rfl⟩ | ⟨rfl, rfl⟩ | ⟨-, rfl⟩
          · exact va_iald hx hb henv.1 hw.1 o 0 he (am_tys_at G (by decide)) (am_in_vp hj) hd (kk rfl rfl)
          · exact absurd rfl ht1
          · exact va_bald hx hb henv.1 hw.1 o 2 he (am_tys_at G (by decide)) (am_in_vp hj) hd (kk rfl rfl)
          · exact va_cald hx hb henv.1 hw.1 o 3 he (am_tys_at G (by decide)) (am_in_vp hj) hd (kk rfl rfl)
          · exact absurd ht4 (by decide)
        · cases hstep
      · rename_i u n f hg
        obtain ⟨ho, hcell⟩ := am_get_inv hg
        split at hstep
        · rename_i ht
          obtain ⟨rfl, rfl, hj⟩ := ht
          cases hstep
          have he : (am_ws G S)[o]? = some (am_b0 G + o, .inl (G.2.1 1, n, .inr (.inl f))) := by rw [am_ws_at ho, hcell]; rfl
          show W p l e R s m args below meth c H locs cells slots Q (F0 m pc ls (.int j :: .ref (am_ad G o) :: r.map (am_v G)))
          rw [had hg]
          rcases hop with ⟨-, h9⟩ | ⟨rfl, -⟩ | ⟨-, h9⟩ | ⟨-, h9⟩ | ⟨-, h9⟩
          · exact absurd h9 (by decide)
          · exact va_lald hx hb henv.1 hw.1 o 1 he (am_tys_at G (by decide)) (am_in_vp hj) hd (kk rfl rfl)
          all_goals exact absurd h9 (by decide)
        · cases hstep
      · rename_i u n f hg
        obtain ⟨ho, hcell⟩ := am_get_inv hg
        split at hstep
        · rename_i ht
          obtain ⟨hu, rfl, hj⟩ := ht
          cases hstep
          have he : (am_ws G S)[o]? = some (am_b0 G + o, .inl (G.2.1 u, n, .inr (.inr (.inr (.inr (fun j => (f j).map (am_ad G))))))) := by rw [am_ws_at ho, hcell]; rfl
          have kk := kk rfl rfl
          simp only [List.map_cons, am_v_rf] at kk
          show W p l e R s m args below meth c H locs cells slots Q (F0 m pc ls (.int j :: .ref (am_ad G o) :: r.map (am_v G)))
          rw [had hg]
          rcases hop with ⟨-, h9⟩ | ⟨-, h9⟩ | ⟨-, h9⟩ | ⟨-, h9⟩ | ⟨rfl, -⟩
          iterate 4 exact absurd h9 (by decide)
          rcases hu with rfl | rfl
          · exact va_aldq (C := RX1) hx hb henv.1 hw.1 o 4 he (am_tys_at G (by decide)) (am_in_vp hj) hd kk
          · exact va_aldq (C := RX7) hx hb henv.1 hw.1 o 5 he (am_tys_at G (by decide)) (am_in_vp hj) hd kk
        · cases hstep
      · cases hstep
  · cases hstep
theorem am_step_alen (C : am_ctx M G p s m args meth c k) {a b w : Nat} {cst : Int} {L : am_L} {st : List Value} {S : am_S} {q : am_F}
    (hchk : am_chk M k pc (.arraylength, 1, a, b, w, cst) = true) (hstep : am_alen (pc + 1) L st S (am_X G) = some q) (hw : am_world G S H) (hS : va_S (am_A G) s.heap H locs)
    (kk : q.2.1 = L → q.2.2.2 = S → W p l e R s m args below meth c H locs cells slots Q (F0 m q.1 ls (q.2.2.1.map (am_v G)))) :
    W p l e R s m args below meth c H locs cells slots Q (F0 m pc ls (st.map (am_v G))) := by
  obtain ⟨hx, hb, hml, hown, hgw, henv, hnm⟩ := C
  obtain ⟨hd, -, -⟩ := am_chk_sp hchk
  dsimp only at hd
  unfold am_alen at hstep
  split at hstep
  · rename_i o r
    split at hstep
    · rename_i n f hro
      cases hstep
      unfold am_ro at hro
      split at hro
      · rename_i ho
        subst ho
        have e := Option.some.inj hro
        have hX := henv.2.2.2.1
        rw [e] at hX
        exact va_slen hx hb hX.1 (Nat.lt_of_lt_of_le hX.2 henv.2.2.2.2.2.2.2.1) (fun h9 => absurd (show am_b0 G ≤ G.2.2.2.1 from h9) (Nat.not_le.mpr hX.2)) hS hd (kk rfl rfl)
      · split at hro
        · rename_i ho
          subst ho
          have e := Option.some.inj hro
          have hX := henv.2.2.2.2.1
          cases e
          exact va_tlen hx hb hX.2.1 hS rfl hd (kk rfl rfl)
        · cases hro
    · rename_i hro
      split at hstep
      · rename_i u n f hg
        obtain ⟨ho, hcell⟩ := am_get_inv hg
        split at hstep
        · rename_i hu
          cases hstep
          have had : am_ad G o = am_b0 G + o := am_ad_low (by have := hw.2; omega)
          have he : (am_ws G S)[o]? = some (am_b0 G + o, .inl (G.2.1 u, am_ra G (n, f))) := by rw [am_ws_at ho, hcell]; rfl
          have hn : (am_ra G (n, f)).1 = n := by
            unfold am_ra
            split
            · rename_i e9; exact (congrArg Prod.fst e9).symm
            · rfl
          show W p l e R s m args below meth c H locs cells slots Q (F0 m pc ls (.ref (am_ad G o) :: r.map (am_v G)))
          rw [had]
          exact va_alen (v := Int32.ofNat n) hx hb henv.1 hw.1 o u he (am_tys_at G hu) (by rw [hn]) hd (kk rfl rfl)
        · cases hstep
      · cases hstep
  · cases hstep
/-- what is stored in an array -/
theorem am_step_astore (C : am_ctx M G p s m args meth c k) {op : Instr} {t a b w : Nat} {cst : Int} {L : am_L} {st : List Value} {S : am_S} {q : am_F}
    (hop : (op = .iastore ∧ t = 0) ∨ (op = .lastore ∧ t = 1) ∨ (op = .bastore ∧ t = 2) ∨ (op = .castore ∧ t = 3) ∨ (op = .aastore ∧ t = 4))
    (hchk : am_chk M k pc (op, 1, a, b, w, cst) = true) (hstep : am_astore t (pc + 1) L st S = some q) (hw : am_world G S H) (hS : va_S (am_A G) s.heap H locs)
    (kk : ∀ H' locs', q.2.1 = L → am_world G q.2.2.2 H' → va_S (am_A G) s.heap H' locs' → W p l e R s m args below meth c H' locs' cells slots Q (F0 m q.1 ls (q.2.2.1.map (am_v G)))) :
    W p l e R s m args below meth c H locs cells slots Q (F0 m pc ls (st.map (am_v G))) := by
  obtain ⟨hx, hb, hml, hown, hgw, henv, hnm⟩ := C
  obtain ⟨hd, -, -⟩ := am_chk_sp hchk
  dsimp only at hd
  unfold am_astore at hstep
  have had : ∀ {o : Nat} {x : am_C}, am_get S o = some x → am_ad G o = am_b0 G + o := fun hg => am_ad_low (by have := hw.2; have := (am_get_inv hg).1; omega)
  split at hstep
  · rename_i x j o r
    split at hstep
    · rename_i u n f hg
      obtain ⟨ho, hcell⟩ := am_get_inv hg
      split at hstep
      · rename_i ht
        obtain ⟨rfl, ht1, ht4, hj⟩ := ht
        cases hstep
        have he : (am_ws G S)[o]? = some (am_b0 G + o, .inl (G.2.1 u, n, .inl f)) := by rw [am_ws_at ho, hcell]; rfl
        show W p l e R s m args below meth c H locs cells slots Q (F0 m pc ls (.int x :: .int j :: .ref (am_ad G o) :: r.map (am_v G)))
        rw [had hg]
        rcases hop with ⟨rfl, rfl⟩ | ⟨-, rfl⟩ | ⟨rfl, rfl⟩ | ⟨rfl, rfl⟩ | ⟨-, rfl⟩
        · refine va_iast hx hb henv.1 hw.1 (am_ws_D G S) hS o 0 he (am_tys_at G (by decide)) (am_in_vp hj) hd (fun H1 locs1 hP1 hD1 hS1 => ?_)
          refine kk H1 locs1 rfl ⟨?_, hw.2⟩ hS1
          rw [← am_ws_upd _ ho]
          exact hP1
        · exact absurd rfl ht1
        · refine va_bast hx hb henv.1 hw.1 (am_ws_D G S) hS o 2 he (am_tys_at G (by decide)) (am_in_vp hj) hd (fun H1 locs1 hP1 hD1 hS1 => ?_)
          refine kk H1 locs1 rfl ⟨?_, hw.2⟩ hS1
          rw [← am_ws_upd _ ho]
          exact hP1
        · refine va_cast hx hb henv.1 hw.1 (am_ws_D G S) hS o 3 he (am_tys_at G (by decide)) (am_in_vp hj) hd (fun H1 locs1 hP1 hD1 hS1 => ?_)
          refine kk H1 locs1 rfl ⟨?_, hw.2⟩ hS1
          rw [← am_ws_upd _ ho]
          exact hP1
        · exact absurd ht4 (by decide)
      · cases hstep
    · cases hstep
  · rename_i x j o r
    split at hstep
    · rename_i u n f hg
      obtain ⟨ho, hcell⟩ := am_get_inv hg
      split at hstep
      · rename_i ht
        obtain ⟨rfl, rfl, hj⟩ := ht
        cases hstep
        have he : (am_ws G S)[o]? = some (am_b0 G + o, .inl (G.2.1 1, n, .inr (.inl f))) := by rw [am_ws_at ho, hcell]; rfl
        show W p l e R s m args below meth c H locs cells slots Q (F0 m pc ls (.long x :: .int j :: .ref (am_ad G o) :: r.map (am_v G)))
        rw [had hg]
        rcases hop with ⟨-, h9⟩ | ⟨rfl, -⟩ | ⟨-, h9⟩ | ⟨-, h9⟩ | ⟨-, h9⟩
        · exact absurd h9 (by decide)
        · refine va_last hx hb henv.1 hw.1 (am_ws_D G S) hS o 1 he (am_tys_at G (by decide)) (am_in_vp hj) hd (fun H1 locs1 hP1 hD1 hS1 => ?_)
          refine kk H1 locs1 rfl ⟨?_, hw.2⟩ hS1
          rw [← am_ws_upd _ ho]
          exact hP1
        all_goals exact absurd h9 (by decide)
      · cases hstep
    · cases hstep
  · rename_i v j o r
    split at hstep
    · rename_i u n f ci fs hg hv
      obtain ⟨ho, hcell⟩ := am_get_inv hg
      obtain ⟨hvo, hvcell⟩ := am_get_inv hv
      split at hstep
      · rename_i ht
        obtain ⟨hu, rfl, hj⟩ := ht
        cases hstep
        have he : (am_ws G S)[o]? = some (am_b0 G + o, .inl (G.2.1 u, n, .inr (.inr (.inr (.inr (fun j => (f j).map (am_ad G))))))) := by rw [am_ws_at ho, hcell]; rfl
        have hev : (am_ws G S)[v]? = some (am_b0 G + v, .inr (ci, fs.map (am_v G))) := by rw [am_ws_at hvo, hvcell]; rfl
        have hup : ∀ i : Nat, (fun j => (va_up f i (some v) j).map (am_ad G)) = va_up (fun j => (f j).map (am_ad G)) i (some (am_b0 G + v)) := by
          intro i
          funext j
          unfold va_up
          split
          · show some (am_ad G v) = _
            rw [had hv]
          · rfl
        show W p l e R s m args below meth c H locs cells slots Q (F0 m pc ls (.ref (am_ad G v) :: .int j :: .ref (am_ad G o) :: r.map (am_v G)))
        rw [had hg, had hv]
        rcases hop with ⟨-, h9⟩ | ⟨-, h9⟩ | ⟨-, h9⟩ | ⟨-, h9⟩ | ⟨rfl, -⟩
        iterate 4 exact absurd h9 (by decide)
        rcases hu with ⟨rfl, rfl⟩ | ⟨rfl, rfl⟩
        · refine va_astq (r := (RX1, TX1, 10)) hx hb henv.1 hw.1 (am_ws_D G S) hS o 4 v 1 he (am_tys_at G (by decide)) hev rfl (am_in_vp hj) hd (fun H1 locs1 hP1 hD1 hS1 => ?_)
          refine kk H1 locs1 rfl ⟨?_, hw.2⟩ hS1
          rw [← am_ws_upd _ ho]
          simp only [am_e, am_ra, hup]
          exact hP1
        · refine va_astq (r := (RX7, TX7, 7)) hx hb henv.1 hw.1 (am_ws_D G S) hS o 5 v 7 he (am_tys_at G (by decide)) hev rfl (am_in_vp hj) hd (fun H1 locs1 hP1 hD1 hS1 => ?_)
          refine kk H1 locs1 rfl ⟨?_, hw.2⟩ hS1
          rw [← am_ws_upd _ ho]
          simp only [am_e, am_ra, hup]
          exact hP1
      · cases hstep
    · cases hstep
  · cases hstep
end AMH
