/-! the law's start, and the claim out of the small machine's run of the law -/
theorem am_nw_ot {w : Cond} (h : w ∈ am_nw) : w.onTables = true := by
  have hk9 : am_nwK w = true := (List.mem_filter.mp h).2
  cases w <;> first | (exact absurd (show false = true from hk9) (by decide)) | rfl
theorem am_ao1 : Cond.arrayOver (.object RX1) ∈ lw_tbl := by decide +kernel
theorem am_ao7 : Cond.arrayOver (.object RX7) ∈ lw_tbl := by decide +kernel
theorem am_ls1 : Cond.laysStatic Bundle.tN "UNASSIGNED_STACK" Bundle.steD ∈ lw_tbl := by decide +kernel
theorem am_ls2 : Cond.laysStatic Bundle.tN "SUPPRESSED_SENTINEL" Bundle.listD ∈ lw_tbl := by decide +kernel
theorem am_ls3 : Cond.laysStatic RX1 "SIGNATURE" "[I" ∈ lw_tbl := by decide +kernel
theorem am_it : Cond.initialized Bundle.tN ∈ lw_tbl := by decide +kernel
abbrev am_sgT : Term := .static RX1 "SIGNATURE" "[I"
theorem am_n1 : Cond.isRef (.static Bundle.tN "UNASSIGNED_STACK" Bundle.steD) ∈ flatC (Jvm.Cond.and given_1 narrow_1) := by decide +kernel
theorem am_n2 : Cond.isRef (.static Bundle.tN "SUPPRESSED_SENTINEL" Bundle.listD) ∈ flatC (Jvm.Cond.and given_1 narrow_1) := by decide +kernel
theorem am_n3 : Cond.arrayOf am_sgT .int ∈ flatC (Jvm.Cond.and given_1 narrow_1) ∧ Cond.eq (.length am_sgT) (.int 5) ∈ flatC (Jvm.Cond.and given_1 narrow_1) := ⟨by decide +kernel, by decide +kernel⟩
theorem am_n4 : ∀ j, j < 5 → Cond.eq (.elem am_sgT (.int (Int32.ofNat j))) (.int (am_sig j)) ∈ flatC (Jvm.Cond.and given_1 narrow_1) := by decide +kernel
theorem am_n5 : ∀ a, a < 3 → ∀ b, b < 3 → a ≠ b → Cond.not (.castable (am_exc (100 + a)) (am_exc (100 + b))) ∈ flatC (Jvm.Cond.and given_1 narrow_1) := by decide +kernel
theorem am_env0 {s : State} {b L : Nat} {xs : Nat → Int32} (hts : ∀ w ∈ lw_tbl, w.before #[Value.ref b] s = true) (hX : va_X b L xs s s.heap) (hbl : b < s.heap.size) (hgv : (Jvm.Cond.and given_1 narrow_1).before #[Value.ref b] s = true) :
    ∃ G : am_G, am_b0 G = s.heap.size ∧ G.2.2.2.1 = b ∧ am_X G = (L, xs) ∧ am_env G s := by
  have hgw : ∀ w ∈ am_gw, w.before #[Value.ref b] s = true := fun w hw => hts w (List.mem_filter.mp hw).1
  have hfl := flat_of_before _ hgv
  have hA : ∀ a : Nat, a < s.heap.size → ¬ (fun q : Nat => s.heap.size ≤ q) a := fun a ha h9 => absurd (show s.heap.size ≤ a from h9) (Nat.not_le.mpr ha)
  have h1 : ∀ ci : Nat, ∃ (cC : ClassId) (iS : Nat → Nat), ∀ q, vwCl[ci]? = some q → u_Kn s q.1 q.2.1 q.2.2 cC iS := by
    intro ci
    cases hq : vwCl[ci]? with
    | none => exact ⟨default, fun _ => 0, fun q h9 => by cases h9⟩
    | some q =>
      obtain ⟨cC, iS, h⟩ := u_known hgw (am_cls hq).1 (hgw _ (am_ini hq).2)
      exact ⟨cC, iS, fun q' e => by cases e; exact h⟩
  have prim : ∀ ty : FieldType, (∀ C9, ty ≠ .object C9) → (Cond.arrayClass ty).before #[Value.ref b] s = true → ∃ cA : ClassId, ArrOfT s cA ty ∧ va_RA s cA ty := by
    intro ty hno h9
    obtain ⟨cA, kA, comp, f1, f2, f3⟩ := Cond.arrayClass_spec h9
    refine ⟨cA, fun N z => ⟨(fun k h => by cases h), kA, f2, comp, f3⟩, ?_⟩
    cases ty with
    | object C9 => exact absurd rfl (hno C9)
    | _ => exact f1
  have obj : ∀ C9 : String, (Cond.arrayOver (.object C9)).before #[Value.ref b] s = true → ∃ cA : ClassId, ArrOfT s cA (.object C9) ∧ va_RA s cA (.object C9) := by
    intro C9 h9
    obtain ⟨comp, cA, kA, f1, -, f3, f4, f5⟩ := Cond.arrayOver_spec h9
    exact ⟨cA, fun N z => ⟨(fun k h => by cases h), kA, f3, comp, f4⟩, kA, comp, f3, f4, f1, f5⟩
  have h2 : ∀ t : Nat, ∃ cA : ClassId, t < 6 → ArrOfT s cA (am_ty t) ∧ va_RA s cA (am_ty t) := by
    intro t
    match t with
    | 0 => obtain ⟨cA, h⟩ := prim .int (by intro C9 h9; cases h9) (hgw _ am_acls.1); exact ⟨cA, fun _ => h⟩
    | 1 => obtain ⟨cA, h⟩ := prim .long (by intro C9 h9; cases h9) (hgw _ am_acls.2.1); exact ⟨cA, fun _ => h⟩
    | 2 => obtain ⟨cA, h⟩ := prim .byte (by intro C9 h9; cases h9) (hgw _ am_acls.2.2.1); exact ⟨cA, fun _ => h⟩
    | 3 => obtain ⟨cA, h⟩ := prim .char (by intro C9 h9; cases h9) (hgw _ am_acls.2.2.2); exact ⟨cA, fun _ => h⟩
    | 4 => obtain ⟨cA, h⟩ := obj RX1 (hts _ am_ao1); exact ⟨cA, fun _ => h⟩
    | 5 => obtain ⟨cA, h⟩ := obj RX7 (hts _ am_ao7); exact ⟨cA, fun _ => h⟩
    | t + 6 => exact ⟨default, fun h9 => absurd h9 (by omega)⟩
  obtain ⟨sg, hsg, hT⟩ := va_Tof (tm := am_sgT) (ty := .int) (N := 5) (f := fun j => .int (am_sig j)) (A := fun q : Nat => s.heap.size ≤ q) (by decide) (hfl _ am_n3.1) (va_eqt (hfl _ am_n3.2)) (fun j hj => va_eqt (hfl _ (am_n4 j hj))) hA
  have hsl : sg < s.heap.size := by
    obtain ⟨cell, h9, -⟩ := hT
    exact (Array.getElem?_eq_some_iff.mp h9).1
  have hi1 : (Cond.initialized RX1).before #[Value.ref b] s = true := hgw _ (am_ini (ci := 1) rfl).1
  refine ⟨((fun k => Classical.choose (h1 k), fun k => Classical.choose (Classical.choose_spec (h1 k))), fun t => Classical.choose (h2 t), s.heap.size, b, sg, L, xs), rfl, rfl, rfl, ⟨fun k q hq => Classical.choose_spec (Classical.choose_spec (h1 k)) q hq, fun k q hq => ?_⟩,
    vx_Zqof (hts _ am_ls1) (hts _ am_it) (hfl _ am_n1) hA, vx_Zqof (hts _ am_ls2) (hts _ am_it) (hfl _ am_n2) hA, ⟨hX, hbl⟩, ⟨va_Zref (hts _ am_ls3) hi1 hsg hA, hT, hsl⟩, fun w hw => va_Nw.of (am_nw_ot hw) (hts w (List.mem_filter.mp hw).1), ⟨va_AO.of (hts _ am_ao1), va_AO.of (hts _ am_ao7)⟩, Nat.le_refl _, fun a9 b9 ha hb hab => va_Nc.of (hfl _ (am_n5 a9 ha b9 hb hab))⟩
  have hk : k < 6 := by
    have h9 := (List.getElem?_eq_some_iff.mp hq).1
    simpa [am_tys] using h9
  rw [am_tys_at _ hk] at hq
  cases hq
  exact Classical.choose_spec (h2 k) hk
/-- the empty small heap -/
def am_S0 : am_S := (0, fun _ => .inr (0, []), 0, 0)
/-- THE SMALL MACHINE RUNS THE LAW ON THE SCRIPT xs OF L INTS, AND IT ANSWERS TRUE -/
def am_law (L : Nat) (xs : Nat → Int32) : Prop := ∃ (d : Nat) (T : am_S), d ≤ 1000 ∧ am_ev am_P am_M1 (L, xs) (d + 1) 176 [.ref 1000000] am_S0 (.inl (some (.int 1)), T) ∧ T.2.2.1 ≤ 601024 ∧ T.2.2.2 ≤ 7293034
/-! THE CLAIM OUT OF ONE WALK OF THE LAW'S BODY. Your part is whole_start (and what it stands on); all else here is the same for every law, but numbers. -/
def R_law : String := "FlightReaderLaw"
def lw_P (b : Addr) (xs : List Int32) (args : Array Value) (s : State) : Prop := args = #[.ref b] ∧ s.IntsAt b xs ∧ xs.length ≤ 2048 ∧ (Jvm.Cond.and given_1 narrow_1).before args s = true
def lw_Q (_ : Array Value) (s : State) (o : Outcome) (t : State) : Prop := o = .returned (some (.int 1)) ∧ Framed s o t [] 601024 7293034
def lw_Z (below : List Frame) (a : Array Value) (s : State) : State → Prop := fun t => ∃ o, t.status = .running ∧ Ended t below o ∧ lw_Q a s o t
/-- the law's own end, with 1 on the stack, nothing written that was there before, its room as the claim has it -/
theorem lw_ret {p : Program} {l : Launch} {e : Env} {s : State} {m : MethodId} {below : List Frame} {meth : Method} {c : Code} {b : Nat} (hx : p.tables.exec = Jvm.exec) (hb : c.code = code) (hr : meth.sig.returnType = ret) (hlocks : meth.locks = false) {pc : Nat} {H : Heap} {ls : Array Slot} (hdg : decode code pc = .ok (.ireturn, 1)) : W p l e room_1 s m #[Value.ref b] below meth c H [] 601024 7293034 (lw_Z below #[Value.ref b] s) (F0 m pc ls [.int 1]) := by
  intro T hT X
  obtain ⟨fs, hret, hrun, hended, hW, hframe⟩ := X.leave (v := some (.int 1)) (hlocks := hlocks) (fun h => by rw [hr] at h; cases h)
  have hmeth' : T.vm.method? m = some meth := X.method'
  refine ⟨T.setFrames fs, ?_, .returned (some (.int 1)), hrun, hended, rfl, ⟨_, rfl⟩, hW, hframe⟩
  jvm_step X.here [X.here.top, hx, hb, hdg, hmeth', hr, ret, narrow_b1]
  (try refine ⟨rfl, ?_⟩); (try refine ⟨rfl, ?_⟩)
  first | (intro acts; rw [hret _ acts rfl rfl rfl]) | rw [hret _ _ rfl rfl rfl]
  exact Steps.refl _
/-- what holds at the law's entry: the machine, the code, the tables' words (any of lw_tbl by 'hts w (by decide +kernel)'), the script of L ints xs at the cell b, what the Statement gives of the start (any of its parts by flat_of_before) -/
def lw_At (p : Program) (s : State) (m : MethodId) (meth : Method) (c : Code) (b L : Nat) (xs : Nat → Int32) : Prop :=
  p.tables.exec = Jvm.exec ∧ c.code = code ∧ meth.sig.returnType = ret ∧ c.maxLocals = 8 ∧ s.vm.findClass R_law = some m.cls ∧ (∀ w ∈ lw_tbl, w.before #[Value.ref b] s = true) ∧ va_X b L xs s s.heap ∧ b < s.heap.size ∧ meth.locks = false ∧ (Jvm.Cond.and given_1 narrow_1).before #[Value.ref b] s = true
theorem whole_start {p : Program} {e : Env} {s : State} {m : MethodId} {below : List Frame} {meth : Method} {c : Code} (l : Launch) {b L : Nat} {xs : Nat → Int32} (hlt : l.stackTraces = false) (hnm : meth.name = "law") (HL : am_law L xs) (C0 : lw_At p s m meth c b L xs) : W p l e room_1 s m #[Value.ref b] below meth c s.heap [] 0 0 (lw_Z below #[Value.ref b] s) (entryFrame m ([Value.ref b] : List Value).toArray 8) := by
  obtain ⟨hx, hb, hr, hml, hown, hts, hX, hbl, hlocks, hgv⟩ := C0
  obtain ⟨G, hG1, hG2, hG3, henv⟩ := am_env0 hts hX hbl hgv
  obtain ⟨d, T, hd, hev, hTc, hTs⟩ := HL
  have hgw : ∀ w ∈ am_gw, w.before #[Value.ref b] s = true := fun w hw => hts w (List.mem_filter.mp hw).1
  rw [← hG3] at hev
  simp only [am_ev] at hev
  obtain ⟨hfl, n, hgo⟩ := hev
  have hm : am_M1 176 = (yL_law, cL_law, 8, some .boolean, []) := rfl
  have hv : [Value.ref 1000000].map (am_v G) = [Value.ref b] := by
    show [Value.ref (am_ad G 1000000)] = _
    rw [show am_ad G 1000000 = G.2.2.2.1 from rfl, hG2]
  have C : am_ctx am_M1 G p s m #[Value.ref b] meth c 176 := ⟨hx, hb, hml, hown, hgw, henv, hnm⟩
  refine W.eq (g2 := F0 m 0 ((lg_sl ([Value.ref 1000000].map (am_v G)) ++ List.replicate (8 - (lg_sl ([Value.ref 1000000].map (am_v G))).length) Slot.unset).toArray) []) (by rw [hv]; exact lg_entry_eq m _ 8) ?_
  have hz : am_world G am_S0 s.heap := ⟨fun k q hq => by
    have h9 := (List.getElem?_eq_some_iff.mp hq).1
    simp [am_ws, am_S0] at h9, by decide⟩
  refine am_go_ok (R := room_1) (c0 := 0) (s0 := 0) am_Pok (fun j as S r h1 h2 => am_sound hlt am_Pok am_Hok d j as S r h1 h2) C (rF := (.inl (some (.int 1)), T)) (by show 17 + d ≤ 2048; omega) (by show 460 + 60 * d ≤ 84000; omega) (by show T.2.2.1 ≤ 0 + 601024; omega) (by show T.2.2.2 ≤ 0 + 7293034; omega)
    (fun pc i L9 st S H locs ls hi he hl9 hw9 hS9 hc9 hs9 => ?_)
    (fun E ce q9 pc rest S H locs ls hh hrF => by cases hrF)
    (fun E ce q9 pc x9 L9 rest S H locs ls hf => by cases hf)
    n 0 _ [] am_S0 hgo s.heap [] _ (am_entry_ls G _ hfl) hz va_S.rf (Nat.zero_le _) (Nat.zero_le _) (Nat.le_refl _) (fun _ => by show s.heap.size + 0 ≤ am_b0 G + 0; omega)
  have hchk := (am_Pok _ _ _ hi).1
  obtain ⟨hd9, hln, -⟩ := am_chk_sp hchk
  obtain ⟨op, len, a, b9, w9, cst⟩ := i
  dsimp only at hd9 hln
  cases op <;> first | (exact absurd (show (none : Option am_R) = _ from he) (by simp)) | skip
  case ireturn =>
    have hl1 : len = 1 := by simpa [am_sws, am_len] using hln
    subst hl1
    obtain ⟨v, ty, rfl, -, -, he9⟩ := am_end_i he
    cases he9
    refine va_forget (fun q hq => by have h9 := hS9.2.2 q hq; rw [← hG1]; exact h9) ?_
    refine W.widen (k := 601024) (n := 7293034) (by omega) (by omega) ?_
    exact lw_ret hx hb hr hlocks hd9
  case lreturn =>
    obtain ⟨v, -, -, he9⟩ := am_end_l he
    cases he9
  case return_ =>
    obtain ⟨-, -, he9⟩ := am_end_v he
    cases he9
  case new x9 =>
    obtain ⟨-, -, he9⟩ := am_end_n he
    cases he9
set_option maxHeartbeats 4000000 in
theorem lw_walk (l : Launch) (hlt : l.stackTraces = false) (HL : ∀ (L : Nat) (xs : Nat → Int32), L ≤ 2048 → am_law L xs) (b : Addr) (xs : List Int32) : MetFree l x (headSpec (Jvm.Cond.code x code maxLocals ret :: tables_1) room_1) (lw_P b xs) (fun _ _ _ _ _ => True) lw_Q := by
  refine MetFree.of_bodyS (code := code) (maxLocals := maxLocals) (ret := ret) (by decide) ?_ ?_
  · intro args s m h hn
    obtain ⟨meth, c, h1, h2, h3, h4, h5, h6, -, -⟩ := Cond.code_spec hn (atoms_spec (ws := Jvm.Cond.code x code maxLocals ret :: tables_1) h _ List.mem_cons_self)
    exact ⟨meth, c, h1, h2, h3, h4, h5, h6⟩
  · intro p e s m args below meth c s₁ B hml0 hP _
    obtain ⟨rfl, hx, hbd, hgv⟩ := hP
    obtain ⟨scr, harrAt, hlist, hof, hsmall⟩ := hx
    obtain ⟨hcb, hkn, -, -⟩ := State.arrayAt?_spec harrAt
    have hown : s.vm.findClass R_law = some m.cls := findClass_of_methodNamed B.named
    have hts0 : ∀ c ∈ (Jvm.Cond.code x code maxLocals ret :: tables_1), c.before #[Value.ref b] s = true := atoms_spec (ws := Jvm.Cond.code x code maxLocals ret :: tables_1) B.pre
    have hts : ∀ w ∈ lw_tbl, w.before #[Value.ref b] s = true := k2_hts_sels lw_privs (fun w hw => hts0 w (List.mem_cons_of_mem _ hw)) lw_privs_ok
    have hml : c.maxLocals = 8 := B.maxLocals_eq (hts0 _ List.mem_cons_self)
    have X₀ : Stand p l e room_1 s m #[Value.ref b] below meth c s₁ [] 0 0 := Stand.of_body B
    have hh0 : s₁.heap = s.heap := by rw [B.state]; rfl
    have hsz : scr.slots.size = xs.length := by rw [← Array.length_toList, hlist, List.length_map]
    have hval : ∀ j : Nat, j < xs.length → scr.slots[j]? = some (.int (xs.getD j 0)) := fun j hj => by
      rw [← Array.getElem?_toList, hlist]
      simp [hj]
    have hbl : b < s.heap.size := (Array.getElem?_eq_some_iff.mp hcb).1
    have hX : va_X b xs.length (fun j => xs.getD j 0) s s.heap := ⟨scr, hcb, hof, hkn, hsz, hval⟩
    have K : W p l e room_1 s m #[Value.ref b] below meth c s₁.heap [] 0 0 (lw_Z below #[Value.ref b] s) (entryFrame m ([Value.ref b] : List Value).toArray 8) := by
      rw [hh0]
      exact whole_start l hlt (name_of_methodNamed B.named B.method).1 (HL _ _ hbd) ⟨B.exec, B.bytes, B.returns, hml, hown, hts, hX, hbl, B.notSynchronized, hgv⟩
    obtain ⟨t, a1, o, b1, b2, b3⟩ := K s₁ rfl X₀
    exact ⟨t, o, a1, b1, b2, b3⟩
theorem lw_pre_spec {args : Array Value} {s : State} (h : (Jvm.Cond.and given_1 narrow_1).before args s = true) (hr : rest_1_c.before args s = true) : ∃ (b : Addr) (xs : List Int32), lw_P b xs args s := by
  have hs := flat_of_before _ h
  have hq := flat_of_before _ hr
  have hc : (Cond.count 1).before args s = true := hs _ (by decide +kernel)
  have harr : (Cond.arrayOf (.arg 0) .int).before args s = true := hs _ (by decide +kernel)
  have hle : (Cond.le (.length (.arg 0)) (.int 2048)).before args s = true := hs _ (by decide +kernel)
  have hlen : (Cond.isInt (.length (.arg 0))).before args s = true := hq _ (by decide +kernel)
  have hall : (Cond.all (.arg 0) (.isInt (.elem (.arg 0) (.index 0)))).before args s = true := hq _ (by decide +kernel)
  obtain ⟨b, xs, hb, hx⟩ := State.ints_of_pre rfl harr hlen hall
  have hsm : xs.length < 2 ^ 31 := hx.choose_spec.2.2.2
  have hev : (Term.length (.arg 0)).eval args s none [] s = some (.int xs.length.toInt32) := hx.length_eval hb
  have hv := Cond.le_ints hev (show (Term.int 2048).eval args s none [] s = some (.int 2048) from rfl)
  have hd : xs.length.toInt32 ≤ 2048 := by
    simpa [Cond.before, Cond.holds, hv] using hle
  have hN : xs.length ≤ 2048 := (Int32.ofNat_le_ofNat hsm (by decide)).mp (show Int32.ofNat xs.length ≤ Int32.ofNat 2048 from hd)
  exact ⟨b, xs, Cond.one_arg hc (show args[0]? = some (.ref b) from hb), hx, hN, h⟩
theorem lw_comes (l : Launch) (hlt : l.stackTraces = false) (HL : ∀ (L : Nat) (xs : Nat → Int32), L ≤ 2048 → am_law L xs) : Comes l x (Jvm.Cond.code x code maxLocals ret :: tables_1) room_1 (fun tb e args s => Calls_1 tb e args s ∧ rest_1 tb e args s ∧ Pre_1 tb e args s)
    (fun _ _ args s o t => lw_Q args s o t) := by
  intro p e ha hc hk s m args below hf hfit hheap happ hpre
  obtain ⟨b, xs, hP⟩ := lw_pre_spec hpre.2.2 hpre.2.1
  obtain ⟨k, o, h1, h2, h3, hQ⟩ := lw_walk l hlt HL b xs p e ha hc hk s m args below hf ((Spec.applies_iff_loose hf).mp happ).1 hP trivial
  exact ⟨k, o, h1, h2, h3, hQ⟩
theorem lw_frame {s t : State} {o : Outcome} {args : Array Value} (h : Framed s o t [] 601024 7293034) :
    Framed s o t (fieldLocs frame_1_writes args s ++ arrayLocs frame_1_arrays args s ++ staticLocs frame_1_statics s) 601024 7293034 := h
theorem lw_limb (HL : ∀ (L : Nat) (xs : Nat → Int32), L ≤ 2048 → am_law L xs) (L : Cond) (hL : ∀ (args : Array Value) (s t : State), L.after args s (.returned (some (.int 1))) t = true) :
    ArmFor flags0 classFile x code maxLocals ret World_1 tables_1 room_1 Calls_1 rest_1 Pre_1
      (fun tb e a s o t => postC L tb e a s o t ∧ Framed s o t (fieldLocs frame_1_writes a s ++ arrayLocs frame_1_arrays a s ++ staticLocs frame_1_statics s) 601024 7293034) := by
  intro l hfl9 _ _ p e ha hc hk s m args below hf hfit hheap happ hpre
  obtain ⟨k, o, h1, h2, h3, rfl, hF⟩ := lw_comes l (by rw [Launch.stackTraces, hfl9]; decide +kernel) HL p e ha hc hk s m args below hf hfit hheap happ hpre
  exact ⟨k, _, h1, h2, h3, hL args s _, lw_frame hF⟩
theorem am_claim (HL : ∀ (L : Nat) (xs : Nat → Int32), L ≤ 2048 → am_law L xs) : Claimed_1_1 ∧ Claimed_1_2 := ⟨lw_limb HL limb_1_1 (fun args s t => by simp [limb_1_1, Cond.after, Cond.holds, Cond.value]), lw_limb HL limb_1_2 (fun args s t => Cond.after_iff.mpr (by
  first | (rw [show limb_1_2 = Cond.eq .result (.int 1) from rfl, Cond.eq_ints (x := 1) (y := 1) rfl rfl]; simp; done) | (simp [limb_1_2, Cond.value, Term.eval]; done)))⟩
