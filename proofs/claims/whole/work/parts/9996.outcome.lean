/-! WHAT A CALL ANSWERS: a value or a number of what is thrown; of the class and of the model -/
def evO (b : Nat → Nat) (tot : Nat) (re : jRe) (e what : Int32) : Int64 ⊕ Nat := match idx e re.2.1.length with
  | none => .inr 1
  | some k => (match re.2.1[k]? with
    | none => .inr 1
    | some y => if what = nI 0 then .inl (lN y.1) else if what = nI 1 then .inl (wrE b tot re y (some (y.2.2.2.1, 0, y.2.2.2.2.1))) else if what = nI 2 then .inl y.2.2.1 else if what = nI 3 then .inl (nnE b re y) else .inr 2)
noncomputable def kdO (b : Nat → Nat) (tot : Nat) (re : jRe) (e path : Int32) : Int32 ⊕ Nat := match idx e re.2.1.length with
  | none => .inr 1
  | some k => (match re.2.1[k]? with
    | none => .inr 1
    | some y => .inl (nI (kdR b (ldE b tot re y path))))
noncomputable def vlO (b : Nat → Nat) (tot : Nat) (re : jRe) (e path : Int32) : Int64 ⊕ Nat := match idx e re.2.1.length with
  | none => .inr 1
  | some k => (match re.2.1[k]? with
    | none => .inr 1
    | some y => (match ldE b tot re y path with
      | none => .inr 2
      | some o => .inl (wrE b tot re y o)))
noncomputable def ltO (b : Nat → Nat) (tot : Nat) (re : jRe) (e path i : Int32) : Int32 ⊕ Nat := match idx e re.2.1.length with
  | none => .inr 1
  | some k => (match re.2.1[k]? with
    | none => .inr 1
    | some y => (match isTx b (ldE b tot re y path) with
      | none => .inr 2
      | some w => (match idx i (lsOf b tot w).length with
        | none => .inr 3
        | some j => (match (lsOf b tot w)[j]? with
          | none => .inr 3
          | some x => .inl (nI x)))))
def sdO (xs : List Nat) (i : Int32) : Int32 ⊕ Nat := match idx i xs.length with
  | none => .inr 1
  | some k => (match xs[k]? with
    | none => .inr 1
    | some e => .inl (nI e))
noncomputable def foO (b : Nat → Nat) (tot : Nat) (re : jRe) (xs : List Nat) (what path : Int32) : Int64 ⊕ Nat :=
  if ¬ (0 ≤ what.toInt ∧ (what.toInt ≤ 4 ∨ (100 ≤ what.toInt ∧ what.toInt ≤ 200))) then .inr 1
  else if 1 < what.toInt ∧ (gat b tot re path xs).length = 0 then .inr 2 else .inl (fvl what.toInt.toNat (gat b tot re path xs))
def gdO (gs : List jG) (gi what : Int32) : Int64 ⊕ Nat := match idx gi gs.length with
  | none => .inr 1
  | some k => (match gs[k]? with
    | none => .inr 1
    | some x => if 0 ≤ what.toInt ∧ what.toInt ≤ 5 then .inl (gvl what.toInt.toNat x) else .inr 2)
theorem w_ne {what : Int32} {n j : Nat} (h : what.toInt < 0 ∨ (n : Int) < what.toInt) (hj : j ≤ n) (hn : n < 2 ^ 31) : what ≠ nI j := by
  intro h9
  rw [h9, nI_toInt (by omega)] at h
  omega
section OUTC
variable {X : Nat × (Nat → Int32)} {d : Nat} {Q : am_R → Prop} {S : am_S} {rec sp tot l : Nat} {cc mp : Int32} {b : Nat → Nat} {A : jVA} {E : jEA} {re : jRe}
theorem c_event {e what : Int32} (hb : ∀ j, b j < 256) (h : clR S rec sp cc mp b tot l A E re) (hv : ∀ v, evO b tot re e what = .inl v → Q (.inl (some (.long v)), S)) (h1 : evO b tot re e what = .inr 1 → Q (.inr OOB, am_thrown S)) (h2 : evO b tot re e what = .inr 2 → Q (.inr IAE, am_thrown S)) : ev X (d + 3) 77 [.ref 0, .int e, .int what] S Q :=
  q_event hb h (fun k y hk hy hw => hv _ (by unfold evO; rw [hk]; dsimp only; rw [hy]; dsimp only; rw [if_pos hw])) (fun k y hk hy hw => hv _ (by unfold evO; rw [hk]; dsimp only; rw [hy]; dsimp only; rw [if_neg (by rw [hw]; decide), if_pos hw])) (fun k y hk hy hw => hv _ (by unfold evO; rw [hk]; dsimp only; rw [hy]; dsimp only; rw [if_neg (by rw [hw]; decide), if_neg (by rw [hw]; decide), if_pos hw])) (fun k y hk hy hw => hv _ (by unfold evO; rw [hk]; dsimp only; rw [hy]; dsimp only; rw [if_neg (by rw [hw]; decide), if_neg (by rw [hw]; decide), if_neg (by rw [hw]; decide), if_pos hw])) (fun hk => h1 (by unfold evO; rw [hk])) (fun k hk hx => h2 (by
    obtain ⟨y, hy, _⟩ := ev_at hk h.2.1.2.2.2.1
    unfold evO
    rw [hk]
    dsimp only
    rw [hy]
    dsimp only
    rw [if_neg (w_ne (n := 3) hx (by decide) (by decide)), if_neg (w_ne (n := 3) hx (by decide) (by decide)), if_neg (w_ne (n := 3) hx (by decide) (by decide)), if_neg (w_ne (n := 3) hx (by decide) (by decide))]))
theorem c_kind {e path : Int32} (h : clR S rec sp cc mp b tot l A E re) (hv : ∀ v, kdO b tot re e path = .inl v → Q (.inl (some (.int v)), S)) (h1 : kdO b tot re e path = .inr 1 → Q (.inr OOB, am_thrown S)) : ev X (d + 4) 78 [.ref 0, .int e, .int path] S Q :=
  q_kind h (fun k y hk hy => hv _ (by unfold kdO; rw [hk]; dsimp only; rw [hy])) (fun hk => h1 (by unfold kdO; rw [hk]))
theorem c_value {e path : Int32} (h : clR S rec sp cc mp b tot l A E re) (hv : ∀ v, vlO b tot re e path = .inl v → Q (.inl (some (.long v)), S)) (h1 : vlO b tot re e path = .inr 1 → Q (.inr OOB, am_thrown S)) (h2 : vlO b tot re e path = .inr 2 → Q (.inr NSE, am_thrown S)) : ev X (d + 4) 79 [.ref 0, .int e, .int path] S Q :=
  q_value h (fun k y o hk hy ho => hv _ (by unfold vlO; rw [hk]; dsimp only; rw [hy]; dsimp only; rw [ho])) (fun hk => h1 (by unfold vlO; rw [hk])) (fun k y hk hy ho => h2 (by unfold vlO; rw [hk]; dsimp only; rw [hy]; dsimp only; rw [ho]))
theorem c_letter {e path i : Int32} (h : clR S rec sp cc mp b tot l A E re) (hv : ∀ v, ltO b tot re e path i = .inl v → Q (.inl (some (.int v)), S)) (h1 : ltO b tot re e path i = .inr 1 → Q (.inr OOB, am_thrown S)) (h2 : ltO b tot re e path i = .inr 2 → Q (.inr NSE, am_thrown S)) (h3 : ltO b tot re e path i = .inr 3 → Q (.inr IAE, am_thrown S)) : ev X (d + 4) 80 [.ref 0, .int e, .int path, .int i] S Q :=
  q_letter h (fun k y w j x hk hy ho hj hx => hv _ (by unfold ltO; rw [hk]; dsimp only; rw [hy]; dsimp only; rw [ho]; dsimp only; rw [hj]; dsimp only; rw [hx])) (fun hk => h1 (by unfold ltO; rw [hk])) (fun k y hk hy ho => h2 (by unfold ltO; rw [hk]; dsimp only; rw [hy]; dsimp only; rw [ho])) (fun k y w hk hy ho hj => h3 (by unfold ltO; rw [hk]; dsimp only; rw [hy]; dsimp only; rw [ho]; dsimp only; rw [hj]))
theorem c_selected {xs : List Nat} {ch : Nat → Int32} {i : Int32} (h0 : am_get S 0 = some (frC rec sp (nI xs.length) mp)) (hch : am_get S 398 = some (iA 60 ch)) (hxs : chD ch xs) (hx60 : xs.length ≤ 60) (hv : ∀ v, sdO xs i = .inl v → Q (.inl (some (.int v)), S)) (h1 : sdO xs i = .inr 1 → Q (.inr OOB, am_thrown S)) : ev X (d + 1) 84 [.ref 0, .int i] S Q :=
  q_selected h0 hch hxs hx60 (fun k e hk he => hv _ (by unfold sdO; rw [hk]; dsimp only; rw [he])) (fun hk => h1 (by unfold sdO; rw [hk]))
theorem foO_1 {xs : List Nat} {what path : Int32} (h : ¬ (∃ w, what = nI w ∧ (w ≤ 4 ∨ (100 ≤ w ∧ w ≤ 200)))) : foO b tot re xs what path = .inr 1 := by
  unfold foO
  rw [if_pos]
  intro h9
  refine h ⟨what.toInt.toNat, Int32.toInt_inj.mp ?_, ?_⟩
  · rw [nI_toInt (by rcases h9.2 with g | g <;> omega)]; have := h9.1; omega
  · rcases h9.2 with g | g
    · exact Or.inl (by omega)
    · exact Or.inr ⟨by omega, by omega⟩
theorem foO_2 {xs : List Nat} {path : Int32} {w : Nat} (h : w ≤ 4 ∨ (100 ≤ w ∧ w ≤ 200)) (h1 : 1 < w) (hz : (gat b tot re path xs).length = 0) : foO b tot re xs (nI w) path = .inr 2 := by
  unfold foO
  rw [nI_toInt (by omega), if_neg (fun h9 => h9 ⟨by omega, by omega⟩), if_pos ⟨by omega, hz⟩]
theorem foO_0 {xs : List Nat} {path : Int32} {w : Nat} (h : w ≤ 4 ∨ (100 ≤ w ∧ w ≤ 200)) (hz : 1 < w → (gat b tot re path xs).length ≠ 0) : foO b tot re xs (nI w) path = .inl (fvl w (gat b tot re path xs)) := by
  unfold foO
  rw [nI_toInt (by omega), if_neg (fun h9 => h9 ⟨by omega, by omega⟩), if_neg (fun h9 => hz (by omega) h9.2)]
  rfl
theorem c_fold {xs : List Nat} {ch : Nat → Int32} {what path : Int32} (h : clR S rec sp (nI xs.length) mp b tot l A E re) (hx60 : xs.length ≤ 60) (hxs : chD ch xs) (hxe : ∀ e, e ∈ xs → e < re.2.1.length) (hch : am_get S 398 = some (iA 60 ch)) (hW : taW S) (hv : ∀ v T, foO b tot re xs what path = .inl v → fr [399, 400] S T → taW T → Q (.inl (some (.long v)), T)) (h1 : foO b tot re xs what path = .inr 1 → Q (.inr IAE, am_thrown S)) (h2 : ∀ T, foO b tot re xs what path = .inr 2 → fr [399, 400] S T → taW T → Q (.inr NSE, am_thrown T)) : ev X (d + 5) 85 [.ref 0, .int what, .int path] S Q :=
  q_fold h hx60 hxs hxe hch hW (fun hn => h1 (foO_1 hn)) (fun w T hw hv1 h1w hz hf ht => h2 T (by rw [hw]; exact foO_2 hv1 h1w hz) hf ht) (fun w T hw hv1 hz hf ht => hv _ T (by rw [hw]; exact foO_0 hv1 hz) hf ht)
theorem gdO_0 {gs : List jG} {gi what : Int32} {k q : Nat} {x : jG} (hk : idx gi gs.length = some k) (hx : gs[k]? = some x) (hw : what = nI q) (hq : q ≤ 5) : gdO gs gi what = .inl (gvl q x) := by
  unfold gdO
  rw [hk]
  dsimp only
  rw [hx]
  dsimp only
  rw [hw, nI_toInt (by omega), if_pos ⟨by omega, by omega⟩]
  rfl
theorem gdO_2 {gs : List jG} {gi what : Int32} {k : Nat} (hk : idx gi gs.length = some k) (hl : gs.length < 2 ^ 31) (hw : what.toInt < 0 ∨ (5 : Int) < what.toInt) : gdO gs gi what = .inr 2 := by
  obtain ⟨_, hkl⟩ := idx_some hk hl
  unfold gdO
  rw [hk]
  dsimp only
  rw [List.getElem?_eq_getElem hkl]
  dsimp only
  rw [if_neg (by omega)]
theorem c_grouped {gi what : Int32} {gs : List jG} {P : jGA} (h0 : am_get S 0 = some (frC rec sp cc mp)) (h : grS S (nI gs.length) P) (hD : gD P gs) (hl : gs.length ≤ 60) (hB : ∀ x, x ∈ gs → x.2.1 < 2 ^ 31 ∧ x.2.2.1 < 2 ^ 31) (hv : ∀ v, gdO gs gi what = .inl v → Q (.inl (some (.long v)), S)) (h1 : gdO gs gi what = .inr 1 → Q (.inr OOB, am_thrown S)) (h2 : gdO gs gi what = .inr 2 → Q (.inr IAE, am_thrown S)) : ev X (d + 1) 87 [.ref 0, .int gi, .int what] S Q :=
  q_grouped h0 h hD hl hB (fun k x q hk hx hw hq => hv _ (gdO_0 hk hx hw hq)) (fun hk => h1 (by unfold gdO; rw [hk])) (fun k hk hw => h2 (gdO_2 hk (by omega) hw))
end OUTC
section OUTM
variable {X : Nat × (Nat → Int32)} {d : Nat} {Q : am_R → Prop} {b : Nat → Nat} {v0 tot : Nat} {re : jRe} {M : jMT} {E : jME} {C : jMC} {S : am_S} {I : Nat → Int32} {st li : Int64} {K : jMK}
theorem m_event {e what : Int32} (hb : ∀ j, b j < 256) (h : mRc S I st li b v0 tot re M E C K) (hP : evP b tot re) (hcq : ckQ b tot re) (hv : ∀ v T J li', evO b tot re e what = .inl v → fr [408] S T → gf [0, 19, 20, 21, 22, 57] I J → mRc T J st li' b v0 tot re M E C K → J 0 = 0 → Q (.inl (some (.long v)), T)) (hc : ∀ c T J li', evO b tot re e what = .inr c → fr [408] S T → gf [0, 19, 20, 21, 22, 57] I J → mRc T J st li' b v0 tot re M E C K → J 0 = nI c → Q (.inl (some (.long 0)), T)) : ev X (d + 6) 131 [.ref 408, .int e, .int what] S Q :=
  q_mevent hb h hP hcq (fun k y hk hy hw T J li2 hf hg h2 j0 => hv _ T J li2 (by unfold evO; rw [hk]; dsimp only; rw [hy]; dsimp only; rw [if_pos hw]) hf hg h2 j0) (fun k y hk hy hw T J li2 hf hg h2 j0 => hv _ T J li2 (by unfold evO; rw [hk]; dsimp only; rw [hy]; dsimp only; rw [if_neg (by rw [hw]; decide), if_pos hw]) hf hg h2 j0) (fun k y hk hy hw T J li2 hf hg h2 j0 => hv _ T J li2 (by unfold evO; rw [hk]; dsimp only; rw [hy]; dsimp only; rw [if_neg (by rw [hw]; decide), if_neg (by rw [hw]; decide), if_pos hw]) hf hg h2 j0) (fun k y hk hy hw T J li2 hf hg h2 j0 => hv _ T J li2 (by unfold evO; rw [hk]; dsimp only; rw [hy]; dsimp only; rw [if_neg (by rw [hw]; decide), if_neg (by rw [hw]; decide), if_neg (by rw [hw]; decide), if_pos hw]) hf hg h2 j0) (fun hk T J li2 hf hg h2 j0 => hc 1 T J li2 (by unfold evO; rw [hk]) hf hg h2 j0) (fun k hk hx T J li2 hf hg h2 j0 => hc 2 T J li2 (by
    obtain ⟨y, hy, _⟩ := ev_at hk h.2.2.2.2.2.2.2.2.2.2.2.2.1
    unfold evO
    rw [hk]
    dsimp only
    rw [hy]
    dsimp only
    rw [if_neg (w_ne (n := 3) hx (by decide) (by decide)), if_neg (w_ne (n := 3) hx (by decide) (by decide)), if_neg (w_ne (n := 3) hx (by decide) (by decide)), if_neg (w_ne (n := 3) hx (by decide) (by decide))]) hf hg h2 j0)
theorem m_kind {e path : Int32} (hb : ∀ j, b j < 256) (hR : reQ b tot re) (hP : evP b tot re) (hE : evR b tot re) (h : mRc S I st li b v0 tot re M E C K) (hv : ∀ v T J st' li' K', kdO b tot re e path = .inl v → fr [408, 425, 426, 427] S T → gf [0, 19, 20, 21, 22, 24, 29, 33, 35, 36, 57] I J → J 0 = 0 → mRc T J st' li' b v0 tot re M E C K' → Q (.inl (some (.int v)), T)) (hc : ∀ c T J st' li' K', kdO b tot re e path = .inr c → fr [408, 425, 426, 427] S T → gf [0, 19, 20, 21, 22, 24, 29, 33, 35, 36, 57] I J → J 0 = nI c → mRc T J st' li' b v0 tot re M E C K' → Q (.inl (some (.int 0)), T)) : ev X (d + 14) 138 [.ref 408, .int e, .int path] S Q :=
  q_mkind hb hR hP hE h (fun k y T J st2 li2 K2 hk hy hf hg j0 h2 => hv _ T J st2 li2 K2 (by unfold kdO; rw [hk]; dsimp only; rw [hy]) hf hg j0 h2) (fun hk T J st2 li2 K2 hf hg j0 h2 => hc 1 T J st2 li2 K2 (by unfold kdO; rw [hk]) hf hg j0 h2)
theorem m_value {e path : Int32} (hb : ∀ j, b j < 256) (hR : reQ b tot re) (hP : evP b tot re) (hE : evR b tot re) (h : mRc S I st li b v0 tot re M E C K) (hv : ∀ v T J st' li' K', vlO b tot re e path = .inl v → fr [408, 425, 426, 427] S T → gf [0, 19, 20, 21, 22, 24, 29, 33, 35, 36, 57] I J → J 0 = 0 → mRc T J st' li' b v0 tot re M E C K' → Q (.inl (some (.long v)), T)) (hc : ∀ c T J st' li' K', vlO b tot re e path = .inr c → fr [408, 425, 426, 427] S T → gf [0, 19, 20, 21, 22, 24, 29, 33, 35, 36, 57] I J → J 0 = nI c → mRc T J st' li' b v0 tot re M E C K' → Q (.inl (some (.long 0)), T)) : ev X (d + 14) 141 [.ref 408, .int e, .int path] S Q :=
  q_mvalue hb hR hP hE h (fun k y o T J st2 li2 K2 hk hy ho hf hg j0 h2 => hv _ T J st2 li2 K2 (by unfold vlO; rw [hk]; dsimp only; rw [hy]; dsimp only; rw [ho]) hf hg j0 h2) (fun k y T J st2 li2 K2 hk hy ho hf hg j0 h2 => hc 2 T J st2 li2 K2 (by unfold vlO; rw [hk]; dsimp only; rw [hy]; dsimp only; rw [ho]) hf hg j0 h2) (fun hk T J st2 li2 K2 hf hg j0 h2 => hc 1 T J st2 li2 K2 (by unfold vlO; rw [hk]) hf hg j0 h2)
theorem m_letter {e path i : Int32} (hb : ∀ j, b j < 256) (hR : reQ b tot re) (hP : evP b tot re) (hE : evR b tot re) (h : mRc S I st li b v0 tot re M E C K) (hv : ∀ v T J st' li' K', ltO b tot re e path i = .inl v → fr [408, 425, 426, 427] S T → gf [0, 19, 20, 21, 22, 24, 29, 33, 35, 36, 57] I J → J 0 = 0 → mRc T J st' li' b v0 tot re M E C K' → Q (.inl (some (.int v)), T)) (hc : ∀ c T J st' li' K', ltO b tot re e path i = .inr c → fr [408, 425, 426, 427] S T → gf [0, 19, 20, 21, 22, 24, 29, 33, 35, 36, 57] I J → J 0 = nI c → mRc T J st' li' b v0 tot re M E C K' → Q (.inl (some (.int 0)), T)) : ev X (d + 14) 142 [.ref 408, .int e, .int path, .int i] S Q :=
  q_mletter hb hR hP hE h (fun k y w j x T J st2 li2 K2 hk hy ho hj hx hf hg j0 h2 => hv _ T J st2 li2 K2 (by unfold ltO; rw [hk]; dsimp only; rw [hy]; dsimp only; rw [ho]; dsimp only; rw [hj]; dsimp only; rw [hx]) hf hg j0 h2) (fun k y T J st2 li2 K2 hk hy ho hf hg j0 h2 => hc 2 T J st2 li2 K2 (by unfold ltO; rw [hk]; dsimp only; rw [hy]; dsimp only; rw [ho]) hf hg j0 h2) (fun k y w T J st2 li2 K2 hk hy ho hj hf hg j0 h2 => hc 3 T J st2 li2 K2 (by unfold ltO; rw [hk]; dsimp only; rw [hy]; dsimp only; rw [ho]; dsimp only; rw [hj]) hf hg j0 h2) (fun hk T J st2 li2 K2 hf hg j0 h2 => hc 1 T J st2 li2 K2 (by unfold ltO; rw [hk]) hf hg j0 h2)
theorem m_selected {xs : List Nat} {ch : Nat → Int32} {i : Int32} (h : am_get S 408 = some (moC I st li)) (h45 : I 45 = nI xs.length) (hch : am_get S 432 = some (iA 60 ch)) (hxs : chD ch xs) (hx60 : xs.length ≤ 60) (hv : ∀ v T J, sdO xs i = .inl v → fr [408] S T → gf [0] I J → am_get T 408 = some (moC J st li) → J 0 = 0 → Q (.inl (some (.int v)), T)) (hc : ∀ c T J, sdO xs i = .inr c → fr [408] S T → gf [0] I J → am_get T 408 = some (moC J st li) → J 0 = nI c → Q (.inl (some (.int 0)), T)) : ev X (d + 1) 154 [.ref 408, .int i] S Q :=
  q_mselected h h45 hch hxs hx60 (fun k e hk he T J hf hg a j0 => hv _ T J (by unfold sdO; rw [hk]; dsimp only; rw [he]) hf hg a j0) (fun hk T J hf hg a j0 => hc 1 T J (by unfold sdO; rw [hk]) hf hg a j0)
theorem m_fold {xs : List Nat} {ch : Nat → Int32} {g : Nat → Int64} {what path : Int32} (hb : ∀ j, b j < 256) (hR : reQ b tot re) (hP : evP b tot re) (hE : evR b tot re) (h : mRc S I st li b v0 tot re M E C K) (h45 : I 45 = nI xs.length) (hch : am_get S 432 = some (iA 60 ch)) (hxs : chD ch xs) (hxe : ∀ e, e ∈ xs → e < re.2.1.length) (hx60 : xs.length ≤ 60) (hg : am_get S 433 = some (lA 60 g)) (hv : ∀ v T J st' li' K', foO b tot re xs what path = .inl v → fr [408, 425, 426, 427, 433] S T → gf [0, 19, 20, 21, 22, 24, 29, 33, 35, 36, 47, 57] I J → mRc T J st' li' b v0 tot re M E C K' → J 0 = 0 → (∃ g', am_get T 433 = some (lA 60 g')) → Q (.inl (some (.long v)), T)) (hc : ∀ c T J st' li' K', foO b tot re xs what path = .inr c → fr [408, 425, 426, 427, 433] S T → gf [0, 19, 20, 21, 22, 24, 29, 33, 35, 36, 47, 57] I J → mRc T J st' li' b v0 tot re M E C K' → J 0 = nI c → (∃ g', am_get T 433 = some (lA 60 g')) → Q (.inl (some (.long 0)), T)) : ev X (d + 16) 157 [.ref 408, .int what, .int path] S Q :=
  q_mfold hb hR hP hE h h45 hch hxs hxe hx60 hg (fun hn T J st2 li2 K2 => hc 1 T J st2 li2 K2 (foO_1 hn)) (fun w T J st2 li2 K2 hw hv1 h1w hz => hc 2 T J st2 li2 K2 (by rw [hw]; exact foO_2 hv1 h1w hz)) (fun w T J st2 li2 K2 hw hv1 hz => hv _ T J st2 li2 K2 (by rw [hw]; exact foO_0 hv1 hz))
theorem m_grouped {P : jGA} {gs : List jG} {gi what : Int32} (h : am_get S 408 = some (moC I st li)) (h49 : I 49 = nI gs.length) (hG : mGr S P) (hD : gD P gs) (hl : gs.length ≤ 60) (hB : ∀ x, x ∈ gs → x.2.1 < 2 ^ 31 ∧ x.2.2.1 < 2 ^ 31) (hv : ∀ v T J, gdO gs gi what = .inl v → fr [408] S T → gf [0] I J → am_get T 408 = some (moC J st li) → J 0 = 0 → Q (.inl (some (.long v)), T)) (hc : ∀ c T J, gdO gs gi what = .inr c → fr [408] S T → gf [0] I J → am_get T 408 = some (moC J st li) → J 0 = nI c → Q (.inl (some (.long 0)), T)) : ev X (d + 1) 161 [.ref 408, .int gi, .int what] S Q :=
  q_mgrouped h h49 hG hD hl hB (fun k x q hk hx hw hq T J => hv _ T J (gdO_0 hk hx hw hq)) (fun hk T J => hc 1 T J (by unfold gdO; rw [hk])) (fun k hk hw T J => hc 2 T J (gdO_2 hk (by omega) hw))
end OUTM
