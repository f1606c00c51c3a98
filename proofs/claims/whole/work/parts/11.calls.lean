/-! contracts out of the small machine, and calls -/
/-- the environment stays as the tables warm and the heap grows -/
theorem am_nw_move {s U : State} (hW : s.WarmedH U.vm) {w : Cond} (hw : w ∈ am_nw) (h : va_Nw w s) : va_Nw w U := by
  have hk : am_nwK w = true := (List.mem_filter.mp hw).2
  cases w <;> first | (exact absurd (show false = true from hk) (by decide)) | skip
  · exact va_Nw.warmM hW h
  · exact va_Nw.warmD hW h
  · exact va_Nw.warmC hW h
theorem am_env_move {G : am_G} {s U : State} (h : am_env G s) (hW : s.WarmedH U.vm) (hq : ∀ q : Nat, q < s.heap.size → ¬ am_A G q → U.heap[q]? = s.heap[q]?) (hz : s.heap.size ≤ U.heap.size) : am_env G U := by
  obtain ⟨hK, hU, hN, ⟨hX, hXb⟩, ⟨hZ, hZX, hZb⟩, hnw, ⟨hO1, hO7⟩, hb, hnc⟩ := h
  have hal := hW.alike
  have low : ∀ b : Nat, b < am_b0 G → U.heap[b]? = s.heap[b]? := fun b hlt => hq b (Nat.lt_of_lt_of_le hlt hb) (fun h9 => absurd (show am_b0 G ≤ b from h9) (Nat.not_le.mpr hlt))
  exact ⟨va_K.moved hal hK, vx_Zq.moved hal (hU.kept hq), vx_Zq.moved hal (hN.kept hq), ⟨va_X.moved hal (hX.kept (low _ hXb)), hXb⟩, ⟨va_Z.moved hal (hZ.kept hq), va_T.moved hal (hZX.kept hq), hZb⟩,
    fun w hw => am_nw_move hW hw (hnw w hw), ⟨va_AO.moved hal hO1, va_AO.moved hal hO7⟩, Nat.le_trans hb hz, fun a b ha hb9 hab => va_Nc.moved hal (hnc a b ha hb9 hab)⟩
def am_Pc (G : am_G) (as : List Value) (S : am_S) : Array Value → State → Prop := va_Pc (as.map (am_v G)) (fun U => am_world G S U.heap ∧ am_env G U ∧ (S.2.2.1 = S.1 → U.heap.size ≤ am_b0 G + S.1) ∧ S.1 ≤ S.2.2.1)
def am_Qc (G : am_G) (r : am_R) : Array Value → State → Outcome → State → Prop := fun _ st o t => (∃ v : Option Value, r.1 = .inl v ∧ o = .returned (v.map (am_v G)) ∧ am_world G r.2 t.heap) ∧ va_F (am_A G) st t
def am_XC (G : am_G) (r : am_R) : String → State → State → Prop := fun E st t => r.1 = .inr E ∧ am_world G r.2 t.heap ∧ va_F (am_A G) st t
theorem am_blind (G : am_G) (as : List Value) (S : am_S) : FrameBlind (am_Pc G as S) := by
  intro a U g mk h
  obtain ⟨h1, h2, h3, h4, h5⟩ := h
  exact ⟨h1, h2, am_env_move h3 (State.WarmedH.refl U) (fun _ _ _ => rfl) (Nat.le_refl _), h4, h5⟩
def am_wsM (M : Nat → am_M) (k : Nat) : List Cond := am_cw M k :: am_gw
def am_room (d : Nat) (S : am_S) (r : am_R) : Room := { frames := 16 + d, cells := r.2.2.2.1 - S.2.2.1, slots := r.2.2.2.2 - S.2.2.2, locals := 400 + 60 * d }
section AMC
variable {p : Program} {l : Launch} {e : Env} {R : Room} {s : State} {m : MethodId} {args : Array Value} {below : List Frame} {meth : Method} {c : Code} {H : Heap} {locs : List Loc} {cells slots mc ms : Nat} {Q : State → Prop}
variable {M : Nat → am_M} {kd : Nat → Nat} {G : am_G} {k pc : Nat} {ls : Array Slot} {g : JFrame} {rest : List Value}
theorem am_gw_at {U : State} {a' : Array Value} (hgw : ∀ w ∈ am_gw, w.before args s = true) (hW : s.WarmedH U.vm) {w : Cond} (hw : w ∈ am_gw) : w.before a' U = true :=
  word_at hW (good_of_word (List.mem_filter.mp hw).2) (hgw w hw)
theorem am_back {Pc : Array Value → State → Prop} {Qc : Array Value → State → Outcome → State → Prop} {XC : String → State → State → Prop} {free : Addr → Prop} {rm : Room} (hgw : ∀ w ∈ am_gw, w.before args s = true) (hm : am_mok M kd k)
    (hM : vx_Met l (M k).1 (am_wsM M k) rm Pc Qc XC mc ms free) (hbl : FrameBlind Pc) (hrc : rm.cells = mc) (hrs : rm.slots = ms) (hfr : rm.frames + 1 ≤ R.frames) (hlo : 8 + ((M k).2.2.1 + 11) + rm.locals ≤ R.locals) :
    vx_Back l R p e below s args (M k).1 3 8 (PreOf R mc ms Pc) (PostOf Qc mc ms free) (vx_Post XC mc ms free) := by
  have hws : ∀ w ∈ am_wsM M k, ∀ a' U, s.WarmedH U.vm → w.before a' U = true := by
    intro w hw a' U hW
    rcases List.mem_cons.mp hw with rfl | hw
    · exact am_gw_at hgw hW hm.1
    · exact am_gw_at hgw hW hw
  have hini : ∀ a' U, s.WarmedH U.vm → (Cond.initialized (M k).1.cls).before a' U = true := fun a' U hW => am_gw_at hgw hW hm.2.1
  by_cases hh : (M k).2.2.2.2 = []
  · exact vx_back (bytes := (M k).2.1) (maxL := (M k).2.2.1) (ret := (M k).2.2.2.1) hM hbl hrc hrs hfr hlo hws (by unfold am_wsM am_cw; rw [if_pos hh]; exact List.mem_cons_self) hini
  · exact vx_backW (hh := am_hh M k) (bytes := (M k).2.1) (maxL := (M k).2.2.1) (ret := (M k).2.2.2.1) hM hbl hrc hrs hfr hlo hws (by unfold am_wsM am_cw; rw [if_neg hh]; exact List.mem_cons_self) hini
/-- from a call's own step to what the callee gives -/
theorem am_run_of {y : MethodName} {ig : Instr} {a : Array Value} {Pc : Array Value → State → Prop} {Qc : Array Value → State → Outcome → State → Prop} {XC : String → State → State → Prop} {free : Addr → Prop}
    (hK : vx_Back l R p e below s args y 3 8 (PreOf R mc ms Pc) (PostOf Qc mc ms free) (vx_Post XC mc ms free))
    (hinv : ∀ T : State, T.heap = H → Stand p l e R s m args below meth c T locs cells slots → ∃ (vm₁ : Vm) (mk : MethodId), Stand p l e R s m args below meth c (T.setVm vm₁) locs cells slots ∧ (T.setVm vm₁).methodNamed? y = some mk ∧
      ∀ target, (∀ acts, Steps p.tables e below (doInvoke e ((T.setVm vm₁).setTop { g with stack := rest }) acts mk a).1 target) → Steps p.tables e below (T.setTop g) target)
    (hpre : ∀ U : State, U.heap = H → s.WarmedH U.vm → Pc a U) (hg : g.method = m) (hsize : g.locals.size = c.maxLocals) (hW8 : 2 * g.monitorRoom + (rest.map fun v => v.category).sum ≤ 8) (hdg : decode c.code g.pc = .ok (ig, 3)) (hf : cells + mc ≤ R.cells ∧ slots + ms ≤ R.slots) :
    vx_Run p l e R s m args below meth c H locs cells slots mc ms g rest (Qc a) XC free := by
  intro T hT X
  obtain ⟨vm₁, mk, X₁, hnamed, hstep⟩ := hinv T hT X
  have hW₁ : s.WarmedH vm₁ := X₁.warmed
  rcases hK m meth c ⟨T.setVm vm₁, locs, cells, slots⟩ { g with stack := rest } ig mk a X₁ hg hsize hdg hW8 hnamed ⟨hf.1, hf.2, hpre (T.setVm vm₁) hT hW₁⟩ with ⟨v, ⟨U', l2, c2, s2⟩, X', ⟨g', mk', t, L, e1, e2, hq, h1, hL, h2, h3⟩, hs⟩ | ⟨q, ⟨U', l2, c2, s2⟩, X', ⟨g', mk', t, L, E, ce, e1, e2, hq, hce, hcv, hcl, h1, hL, h2, h3⟩, hs⟩
  · dsimp only [Pt.U, Pt.locs, Pt.cells, Pt.slots] at X' e1 e2 h1 h2 h3 hs
    subst h1; subst h2; subst h3
    exact Or.inl ⟨v, (T.setVm vm₁).calling g' mk' a, t, U', L, hT, X', hL, e1, e2, hq, fun target h => hstep target fun acts => by rw [doInvoke_state]; exact hs.trans h⟩
  · dsimp only [Pt.U, Pt.locs, Pt.cells, Pt.slots] at X' e1 e2 h1 h2 h3 hs hcl
    subst h1; subst h2; subst h3
    exact Or.inr ⟨q, (T.setVm vm₁).calling g' mk' a, t, U', L, E, ce, hT, X', hL, e1, e2, hq, hce, hcv, vx_cls hW₁ hcl, hstep _ fun acts => by rw [doInvoke_state]; exact hs⟩
/-- .. and on from there -/
theorem am_after {r1 : am_R} {a : Array Value} (hr : vx_Run p l e R s m args below meth c H locs cells slots mc ms g rest (am_Qc G r1 a) (am_XC G r1) (am_A G)) (hS : va_S (am_A G) s.heap H locs)
    (kret : ∀ (v : Option Value) (H1 : Heap) (locs1 : List Loc), r1.1 = .inl v → am_world G r1.2 H1 → va_S (am_A G) s.heap H1 locs1 → W p l e R s m args below meth c H1 locs1 (cells + mc) (slots + ms) Q { g with pc := g.pc + 3, stack := (v.map (am_v G)).toList ++ rest })
    (kthr : ∀ (E : String) (ce : Cell) (q9 : Addr) (H1 : Heap) (locs1 : List Loc), r1.1 = .inr E → am_world G r1.2 H1 → va_S (am_A G) s.heap H1 locs1 → H1[q9]? = some ce → ce.vm = .none → s.vm.findClass E = some ce.cls → vx_W p l e R s m args below meth c H1 locs1 (cells + mc) (slots + ms) Q { g with stack := rest } q9) :
    W p l e R s m args below meth c H locs cells slots Q g := by
  intro T hT X
  rcases hr T hT X with ⟨v, st₀, t, T', L, h0, X', hL, e1, e2, ⟨⟨w, hw, hv, hwd⟩, hF⟩, st⟩ | ⟨q, st₀, t, T', L, E, ce, h0, X', hL, e1, e2, ⟨hE, hwd, hF⟩, hce, hcv, hcl, st⟩
  · cases hv
    obtain ⟨k1, k2, k3⟩ := vx_keep h0 e1 hS (fun _ _ h => h) (fun _ h => h) hL hF
    obtain ⟨t2, a1, b1⟩ := kret w T'.heap (locs ++ L) hw (by rw [e1]; exact hwd) k3 T' rfl X'
    exact ⟨t2, st t2 a1, b1⟩
  · obtain ⟨k1, k2, k3⟩ := vx_keep h0 e1 hS (fun _ _ h => h) (fun _ h => h) hL hF
    obtain ⟨t2, a1, b1⟩ := kthr E ce q T'.heap (locs ++ L) hE (by rw [e1]; exact hwd) k3 (by rw [e1]; exact hce) hcv hcl T' rfl X'
    exact ⟨t2, st.trans a1, b1⟩
end AMC
