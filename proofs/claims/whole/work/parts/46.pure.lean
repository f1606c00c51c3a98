/-! A CHUNK'S EVENTS, as they are read -/
/-- a constant: type, key, its value's place, its node -/
abbrev jK : Type := Nat × Int64 × Nat × Nat
/-- a checkpoint: place, delta, the delta's place, how many constants there are behind it -/
abbrev jCp : Type := Nat × Nat × Nat × Nat
/-- an event: chunk, place, ticks, type, its value's place, its node -/
abbrev jEv : Type := Nat × Nat × Int64 × Nat × Nat × Nat
def kdb (τ : jTT) (w kd : Nat) : Bool := match tix τ w with
  | none => false
  | some t => decide (τ[t]?.map (fun x => x.2.2.1) = some kd)
theorem kdb_iff {τ : jTT} {w kd : Nat} : kdb τ w kd = true ↔ isKd τ w kd := by
  unfold kdb isKd
  constructor
  · intro h
    cases e : tix τ w with
    | none => rw [e] at h; cases h
    | some t =>
      rw [e] at h
      have h1 := of_decide_eq_true h
      cases ex : τ[t]? with
      | none => rw [ex] at h1; cases h1
      | some x => rw [ex] at h1; exact ⟨t, x, rfl, ex, by simpa using h1⟩
  · rintro ⟨t, x, h1, h2, h3⟩
    rw [h1]
    dsimp only
    rw [h2]
    simp [h3]
def okK (τ : jTT) (ty : Nat) : Bool := decide (2 ≤ ty ∧ ty ≤ 10) || kdb τ ty 0
def rdKs (τ : jTT) (b : Nat → Nat) (lim ty : Nat) : Nat → Nat → Nat → List jK → (Int32 × Nat) ⊕ (Nat × Nat × List jK)
  | 0, p, n, ks => .inr (p, n, ks)
  | m + 1, p, n, ks => if ks.length = 40 then .inl (8, p) else (match num9 (Bn b) lim p with
    | none => .inl (2, p)
    | some (key, p1) => (match rv τ b true lim 21 ty 0 p1 n with
      | .inl e => .inl e
      | .inr (p2, n2) => rdKs τ b lim ty m p2 n2 (ks ++ [(ty, key, p1, n)])))
def rdPs (τ : jTT) (b : Nat → Nat) (lim : Nat) : Nat → Nat → Nat → List jK → (Int32 × Nat) ⊕ (Nat × Nat × List jK)
  | 0, p, n, ks => .inr (p, n, ks)
  | m + 1, p, n, ks => (match cnt (Bn b) lim p with
    | none => .inl (2, p)
    | some (ty, p1) => if okK τ ty = false then .inl (3, p) else (match cnt (Bn b) lim p1 with
      | none => .inl (2, p1)
      | some (many, p2) => (match rdKs τ b lim ty many p2 n ks with
        | .inl e => .inl e
        | .inr (p3, n3, ks3) => rdPs τ b lim m p3 n3 ks3)))
/-- a checkpoint's content: its delta, where it ends, the next node, the constants -/
def rdCp (τ : jTT) (b : Nat → Nat) (lim p n : Nat) (ks : List jK) : (Int32 × Nat) ⊕ (Nat × Nat × Nat × List jK) := match cnt (Bn b) lim p with
  | none => .inl (2, p)
  | some (dl, p1) => (match cnt (Bn b) lim p1 with
    | none => .inl (2, p1)
    | some (pools, p2) => (match rdPs τ b lim pools p2 n ks with
      | .inl e => .inl e
      | .inr (p3, n3, ks3) => .inr (dl, p3, n3, ks3)))
/-- next node, checkpoints, constants, events -/
abbrev jSt : Type := Nat × List jCp × List jK × List jEv
/-- an event's content: its ticks, its value's place, where it ends, the next node -/
def rdV (τ : jTT) (b : Nat → Nat) (lim idp q p n ne id : Nat) : (Int32 × Nat) ⊕ (Int64 × Nat × Nat × Nat) :=
  if kdb τ id 1 = false then .inl (3, idp) else if ne = 60 then .inl (8, q) else (match num9 (Bn b) lim p with
    | none => .inl (2, p)
    | some (tk, p3) => (match rv τ b true lim 21 id 0 p3 n with
      | .inl er => .inl er
      | .inr (p', n') => .inr (tk, p3, p', n')))
def rdE1 (τ : jTT) (b : Nat → Nat) (ci e q : Nat) (st : jSt) : (Int32 × Nat) ⊕ (Nat × jSt) := match hd (Bn b) q e with
  | .inl er => .inl er
  | .inr (len, id, p1, p2) => if id = 1 then (match rdCp τ b (q + len) p2 st.1 st.2.2.1 with
      | .inl er => .inl er
      | .inr (dl, p', n', ks') => if p' < q + len then .inl (5, p') else .inr (q + len, n', st.2.1 ++ [(q, dl, p2, ks'.length)], ks', st.2.2.2))
    else if id = 0 then .inr (q + len, st)
    else (match rdV τ b (q + len) p1 q p2 st.1 st.2.2.2.length id with
      | .inl er => .inl er
      | .inr (tk, p3, p', n') => if p' < q + len then .inl (5, p') else .inr (q + len, n', st.2.1, st.2.2.1, st.2.2.2 ++ [(ci, q, tk, id, p3, st.1)]))
def rdEs (τ : jTT) (b : Nat → Nat) (ci e : Nat) : Nat → Nat → jSt → (Int32 × Nat) ⊕ jSt
  | 0, _, st => .inr st
  | f + 1, q, st => if e ≤ q then .inr st else (match rdE1 τ b ci e q st with
    | .inl er => .inl er
    | .inr (q', st') => rdEs τ b ci e f q' st')
/-- which checkpoint is at the place -/
def cpx (cps : List jCp) (q : Nat) : Option Nat := fsti (fun i => decide (cps[i]?.map (fun y => y.1) = some q)) cps.length 0
/-- the constants of checkpoint i -/
def ceA (cps : List jCp) (i : Nat) : Nat := match i with
  | 0 => 0
  | i + 1 => (match cps[i]? with
    | none => 0
    | some y => y.2.2.2)
def seg (cps : List jCp) (ks : List jK) (i : Nat) : List jK := (ks.take (ceA cps (i + 1))).drop (ceA cps i)
/-- the chain's constants, from checkpoint i on -/
def chn (cps : List jCp) (ks : List jK) : Nat → Nat → (Int32 × Nat) ⊕ List jK
  | 0, _ => .inr []
  | f + 1, i => (match cps[i]? with
    | none => .inr []
    | some (q, dl, dp, _) => if dl = 0 then .inr (seg cps ks i) else if q < dl then .inl (7, dp) else (match cpx cps (q - dl) with
      | none => .inl (7, dp)
      | some j => (match chn cps ks f j with
        | .inl e => .inl e
        | .inr L => .inr (seg cps ks i ++ L))))
def lnk (b : Nat → Nat) (s : Nat) (cps : List jCp) (ks : List jK) : (Int32 × Nat) ⊕ List jK :=
  if w2 b (s + 10) = 0 then .inr [] else (match cpx cps (s + w2 b (s + 10)) with
    | none => .inl (7, s + 10)
    | some i => chn cps ks cps.length i)
/-- a chunk that was read: start, end, types, the chain's constants -/
abbrev jCk : Type := Nat × Nat × jTT × List jK
/-- next node, events, chunks -/
abbrev jRe : Type := Nat × List jEv × List jCk
noncomputable def rdCk (b : Nat → Nat) (tot s : Nat) (re : jRe) : (Int32 × Nat) ⊕ (Nat × jRe) :=
  if re.2.2.length = 4 then .inl (8, s) else (match rdH b tot s with
  | .inl er => .inl er
  | .inr z => (match rdM b s (s + z) with
    | .inl er => .inl er
    | .inr τ => @ite _ (fht τ ∧ nocyc τ) (Classical.propDecidable _) (match rdEs τ b re.2.2.length (s + z) 960 (s + 20) (re.1, [], [], re.2.1) with
      | .inl er => .inl er
      | .inr (n', cps, ks, evs) => (match lnk b s cps ks with
        | .inl er => .inl er
        | .inr L => .inr (s + z, n', evs, re.2.2 ++ [(s, s + z, τ, L)]))) (.inl (4, s + w2 b (s + 8)))))
noncomputable def rdO (b : Nat → Nat) (tot : Nat) : Nat → Nat → jRe → (Int32 × Nat) ⊕ jRe
  | 0, _, re => .inr re
  | f + 1, s, re => (match rdCk b tot s re with
    | .inl er => .inl er
    | .inr (e, re') => if e < tot then rdO b tot f e re' else .inr re')
/-- what an open does -/
noncomputable def rdA (b : Nat → Nat) (tot : Nat) : (Int32 × Nat) ⊕ jRe := rdO b tot 5 0 (1, [], [])
/-! what the arrays hold of it -/
/-- a value of type ty at vp lies at node nd, its nodes below N, its letters below M -/
def dvx (τ : jTT) (b : Nat → Nat) (tot : Nat) (A : jVA) (N M ty vp nd : Nat) : Prop := ∃ lim l p' n' l', lim ≤ tot ∧ n' ≤ N ∧ l' ≤ M ∧ DV τ b lim A 21 ty 0 vp nd l p' n' l'
theorem dvx_agr {τ : jTT} {b : Nat → Nat} {tot : Nat} {A A' : jVA} {N M N' M' ty vp nd : Nat} (h : dvx τ b tot A N M ty vp nd) (ha : agr A A' N M) (hN : N ≤ N') (hM : M ≤ M') : dvx τ b tot A' N' M' ty vp nd := by
  obtain ⟨lim, l, p', n', l', h1, h2, h3, h4⟩ := h
  exact ⟨lim, l, p', n', l', h1, by omega, by omega, DV_agr ha _ _ _ _ _ _ _ _ _ h4 h2 h3⟩
def ksG (τ : jTT) (b : Nat → Nat) (tot : Nat) (A : jVA) (N M : Nat) (ks : List jK) : Prop := ∀ k, k ∈ ks → dvx τ b tot A N M k.1 k.2.2.1 k.2.2.2 ∧ okK τ k.1 = true
theorem ksG_agr {τ : jTT} {b : Nat → Nat} {tot : Nat} {A A' : jVA} {N M N' M' : Nat} {ks : List jK} (h : ksG τ b tot A N M ks) (ha : agr A A' N M) (hN : N ≤ N') (hM : M ≤ M') : ksG τ b tot A' N' M' ks :=
  fun k hk => ⟨dvx_agr (h k hk).1 ha hN hM, (h k hk).2⟩
def evG (τs : List jTT) (b : Nat → Nat) (tot : Nat) (A : jVA) (N M : Nat) (evs : List jEv) : Prop := ∀ y, y ∈ evs → ∃ τ, τs[y.1]? = some τ ∧ dvx τ b tot A N M y.2.2.2.1 y.2.2.2.2.1 y.2.2.2.2.2 ∧ isKd τ y.2.2.2.1 1 ∧ ∃ e len p1 p2, e ≤ tot ∧ hd (Bn b) y.2.1 e = .inr (len, y.2.2.2.1, p1, p2) ∧ num9 (Bn b) (y.2.1 + len) p2 = some (y.2.2.1, y.2.2.2.2.1)
theorem evG_agr {τs : List jTT} {b : Nat → Nat} {tot : Nat} {A A' : jVA} {N M N' M' : Nat} {evs : List jEv} (h : evG τs b tot A N M evs) (ha : agr A A' N M) (hN : N ≤ N') (hM : M ≤ M') : evG τs b tot A' N' M' evs := by
  intro y hy
  obtain ⟨τ, h1, h2, h3, h4⟩ := h y hy
  exact ⟨τ, h1, dvx_agr h2 ha hN hM, h3, h4⟩
theorem evG_add {τs : List jTT} {τ : jTT} {b : Nat → Nat} {tot : Nat} {A : jVA} {N M : Nat} {evs : List jEv} (h : evG τs b tot A N M evs) : evG (τs ++ [τ]) b tot A N M evs := by
  intro y hy
  obtain ⟨τ', h1, h2⟩ := h y hy
  refine ⟨τ', ?_, h2⟩
  rw [List.getElem?_append_left (List.getElem?_eq_some_iff.mp h1).1]
  exact h1
theorem ring_no {τ : jTT} (h : ring τ) : ¬ nocyc τ := by
  rintro ⟨rk, hr, he⟩
  obtain ⟨U, ⟨t0, ht0⟩, hU⟩ := h
  have key : ∀ (n t : Nat), rk t ≤ n → ¬ U t := by
    intro n
    induction n with
    | zero =>
      intro t ht hu
      obtain ⟨_, u, _, hed⟩ := hU t hu
      have := he t u hed
      omega
    | succ n ih =>
      intro t ht hu
      obtain ⟨_, u, hu2, hed⟩ := hU t hu
      have := he t u hed
      exact ih u (by omega) hu2
  exact key (rk t0) t0 (Nat.le_refl _) ht0
theorem okK_kn {τ : jTT} (hw : wfT τ) {ty : Nat} (hty : ty < 2 ^ 31) (h : okK τ ty = true) : kn τ ty := by
  unfold okK at h
  rw [Bool.or_eq_true] at h
  rcases h with h | h
  · exact Or.inl (of_decide_eq_true h)
  · obtain ⟨t, x, h1, h2, h3⟩ := kdb_iff.mp h
    obtain ⟨x', e1, e2, _⟩ := tix_some h1
    have h4 := (wf_ty hw e1).1
    unfold tyOK at h4
    exact Or.inr ⟨by omega, hty, t, h1⟩
theorem isKd_kn {τ : jTT} (hw : wfT τ) {ty kd : Nat} (hty : ty < 2 ^ 31) (h : isKd τ ty kd) : kn τ ty := by
  obtain ⟨t, x, h1, h2, h3⟩ := h
  obtain ⟨x', e1, e2, _⟩ := tix_some h1
  have h4 := (wf_ty hw e1).1
  unfold tyOK at h4
  exact Or.inr ⟨by omega, hty, t, h1⟩
theorem rvs_le {f : Nat → Nat → Nat → Nat → (Int32 × Nat) ⊕ (Nat × Nat)} (hf : ∀ ty fl p n p' n', f ty fl p n = .inr (p', n') → p ≤ p' ∧ n < n') : ∀ {js : List (Nat × Nat)} {p n p' n' : Nat}, rvs f js p n = .inr (p', n') → p ≤ p' ∧ n ≤ n' := by
  intro js
  induction js with
  | nil => intro p n p' n' h; cases h; exact ⟨Nat.le_refl _, Nat.le_refl _⟩
  | cons j js ih =>
    intro p n p' n' h
    obtain ⟨ty, fl⟩ := j
    unfold rvs at h
    split at h
    · cases h
    · rename_i p1 n1 e1
      have h1 := hf _ _ _ _ _ _ e1
      have h2 := ih h
      omega
theorem rv_le {τ : jTT} {b : Nat → Nat} {chk : Bool} {lim : Nat} : ∀ (h ty fl p n p' n' : Nat), rv τ b chk lim h ty fl p n = .inr (p', n') → p ≤ p' ∧ n < n' := by
  intro h
  induction h with
  | zero => intro ty fl p n p' n' e; cases e
  | succ h ih =>
    intro ty fl p n p' n' e
    unfold rv at e
    split at e
    · cases e
    · split at e
      · split at e
        · cases e
        · rename_i len p1 ec
          have h1 := cnt_lt ec
          have h2 := rvs_le ih e
          omega
      · split at e
        · split at e
          · cases e
          · rename_i v p1 ec
            have h1 := num9_pos ec
            cases e
            omega
        · split at e
          · split at e
            · cases e
            · rename_i tv p1 ec
              have h1 := rdX_pos ec
              cases e
              omega
          · split at e
            · split at e
              · cases e
              · rename_i v p1 ec
                have h1 := rdP_pos ec
                cases e
                omega
            · split at e
              · cases e; omega
              · split at e
                · cases e; omega
                · have h2 := rvs_le ih e
                  omega
theorem rdKs_le {τ : jTT} {b : Nat → Nat} {lim ty : Nat} : ∀ {m p n : Nat} {ks : List jK} {p' n' : Nat} {ks' : List jK}, rdKs τ b lim ty m p n ks = .inr (p', n', ks') → p ≤ p' ∧ ks.length ≤ ks'.length := by
  intro m
  induction m with
  | zero => intro p n ks p' n' ks' h; cases h; exact ⟨Nat.le_refl _, Nat.le_refl _⟩
  | succ m ih =>
    intro p n ks p' n' ks' h
    unfold rdKs at h
    split at h
    · cases h
    · split at h
      · cases h
      · rename_i key p1 ec
        have h1 := num9_pos ec
        split at h
        · cases h
        · rename_i p2 n2 e2
          have h2 := rv_le _ _ _ _ _ _ _ e2
          have h3 := ih h
          rw [List.length_append] at h3
          omega
theorem rdPs_le {τ : jTT} {b : Nat → Nat} {lim : Nat} : ∀ {m p n : Nat} {ks : List jK} {p' n' : Nat} {ks' : List jK}, rdPs τ b lim m p n ks = .inr (p', n', ks') → p ≤ p' ∧ ks.length ≤ ks'.length := by
  intro m
  induction m with
  | zero => intro p n ks p' n' ks' h; cases h; exact ⟨Nat.le_refl _, Nat.le_refl _⟩
  | succ m ih =>
    intro p n ks p' n' ks' h
    unfold rdPs at h
    split at h
    · cases h
    · rename_i ty p1 ec
      have h1 := cnt_lt ec
      split at h
      · cases h
      · split at h
        · cases h
        · rename_i many p2 ec2
          have h2 := cnt_lt ec2
          split at h
          · cases h
          · rename_i p3 n3 ks3 e3
            have h3 := rdKs_le e3
            have h4 := ih h
            omega
theorem rdCp_le {τ : jTT} {b : Nat → Nat} {lim p n : Nat} {ks : List jK} {dl p' n' : Nat} {ks' : List jK} (h : rdCp τ b lim p n ks = .inr (dl, p', n', ks')) : p + 2 ≤ p' ∧ ks.length ≤ ks'.length ∧ dl < 2 ^ 31 := by
  unfold rdCp at h
  split at h
  · cases h
  · rename_i dl1 p1 ec
    have h1 := cnt_lt ec
    split at h
    · cases h
    · rename_i pools p2 ec2
      have h2 := cnt_lt ec2
      split at h
      · cases h
      · rename_i p3 n3 ks3 e3
        have h3 := rdPs_le e3
        cases h
        omega
