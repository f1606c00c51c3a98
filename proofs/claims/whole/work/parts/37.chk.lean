/-! THE CLASS'S QUESTIONS TO A CHUNK'S TYPES -/
def wfT (τ : jTT) : Prop := τ.length ≤ 10 ∧ (∀ x, x ∈ τ → tyOK x) ∧ ∀ (i j : Nat) (x y : jTy), τ[i]? = some x → τ[j]? = some y → x.1 = y.1 → i = j
def ckO (S : am_S) (c : Nat) (τ : jTT) : Prop := (∃ st en tk fq nc, am_get S c = some (ckC c st en tk fq (nI τ.length) nc)) ∧ ckR S c ∧ ckT S c τ
def isKd (τ : jTT) (w kd : Nat) : Prop := ∃ t x, tix τ w = some t ∧ τ[t]? = some x ∧ x.2.2.1 = kd
def goodF (τ : jTT) (y : jFd) : Prop := (2 ≤ y.2.1 ∧ y.2.1 ≤ 10) ∨ ∃ u z, tix τ y.2.1 = some u ∧ τ[u]? = some z ∧ z.2.2.1 = 0 ∧ z.2.2.2.length ≠ 0
def fht (τ : jTT) : Prop := ∀ (t : Nat) (x : jTy) (f : Nat) (y : jFd), τ[t]? = some x → x.2.2.2[f]? = some y → goodF τ y
/-- a value of type t holds one of type u, not by a key -/
def edge (τ : jTT) (t u : Nat) : Prop := ∃ (x : jTy) (f : Nat) (y : jFd), τ[t]? = some x ∧ x.2.2.2[f]? = some y ∧ y.2.2 % 2 = 0 ∧ tix τ y.2.1 = some u
def nocyc (τ : jTT) : Prop := ∃ rk : Nat → Nat, (∀ t, rk t ≤ 9) ∧ ∀ t u, edge τ t u → rk u < rk t
def ring (τ : jTT) : Prop := ∃ U : Nat → Prop, (∃ t, U t) ∧ ∀ t, U t → t < τ.length ∧ ∃ u, U u ∧ edge τ t u
theorem tix_some {τ : jTT} {w t : Nat} (h : tix τ w = some t) : ∃ x, τ[t]? = some x ∧ x.1 = w ∧ t < τ.length := by
  obtain ⟨h1, h2, h3, h4⟩ := fsti_some h
  have h5 : t < τ.length := by omega
  refine ⟨τ[t], List.getElem?_eq_getElem h5, ?_, h5⟩
  have h6 := of_decide_eq_true h3
  rw [List.getElem?_eq_getElem h5] at h6
  simpa using h6
theorem edge_lt {τ : jTT} {t u : Nat} (h : edge τ t u) : t < τ.length ∧ u < τ.length := by
  obtain ⟨x, f, y, h1, h2, h3, h4⟩ := h
  obtain ⟨z, h5, h6, h7⟩ := tix_some h4
  exact ⟨(List.getElem?_eq_some_iff.mp h1).1, h7⟩
theorem wf_ty {τ : jTT} (h : wfT τ) {t : Nat} {x : jTy} (hx : τ[t]? = some x) : tyOK x ∧ t < τ.length := ⟨h.2.1 x (mem_at hx), (List.getElem?_eq_some_iff.mp hx).1⟩
theorem wf_fd {τ : jTT} (h : wfT τ) {t f : Nat} {x : jTy} {y : jFd} (hx : τ[t]? = some x) (hy : x.2.2.2[f]? = some y) : fdOK y ∧ f < 8 ∧ f < x.2.2.2.length := by
  have h1 := (wf_ty h hx).1
  unfold tyOK at h1
  have h2 := (List.getElem?_eq_some_iff.mp hy).1
  exact ⟨h1.2.2.2.2.2.2 y (mem_at hy), by omega, h2⟩
theorem ckO_fr {js : List Nat} {S T : am_S} {c : Nat} {τ : jTT} (h : ckO S c τ) (hl : τ.length ≤ 10) (hf : fr js S T) (hj : ∀ j, j ∈ js → j < c ∨ c + 45 ≤ j) : ckO T c τ := by
  obtain ⟨⟨st, en, tk, fq, nc, h0⟩, ⟨F, h1, h2⟩, h3⟩ := h
  refine ⟨⟨st, en, tk, fq, nc, by rw [fr_get hf (fun h9 => by have := hj _ h9; omega)]; exact h0⟩, ⟨F, by rw [fr_get hf (fun h9 => by have := hj _ h9; omega)]; exact h1, h2⟩, fun t x hx => ?_⟩
  have ht := (List.getElem?_eq_some_iff.mp hx).1
  exact cT_fr (h3 t x hx) hf ⟨fun h9 => by have := hj _ h9; omega, fun h9 => by have := hj _ h9; omega, fun h9 => by have := hj _ h9; omega, fun h9 => by have := hj _ h9; omega⟩
theorem msk_t0 : ∀ m : Fin 1024, ∀ u : Fin 10, am_c1 .ne (nI m.val &&& (Int32.ofInt 1 <<< (nI u.val &&& 31))) = m.val.testBit u.val := by decide +kernel
theorem msk_o0 : ∀ m : Fin 1024, ∀ u : Fin 10, nI m.val ||| (Int32.ofInt 1 <<< (nI u.val &&& 31)) = nI (m.val ||| 2 ^ u.val) := by decide +kernel
theorem msk_f0 : ∀ n : Fin 11, (Int32.ofInt 1 <<< (nI n.val &&& 31)) - Int32.ofInt 1 = nI (2 ^ n.val - 1) := by decide +kernel
theorem msk_t {m u : Nat} (hm : m < 1024) (hu : u < 10) : am_c1 .ne (nI m &&& (Int32.ofInt 1 <<< (nI u &&& 31))) = m.testBit u := msk_t0 ⟨m, hm⟩ ⟨u, hu⟩
theorem msk_o {m u : Nat} (hm : m < 1024) (hu : u < 10) : nI m ||| (Int32.ofInt 1 <<< (nI u &&& 31)) = nI (m ||| 2 ^ u) := msk_o0 ⟨m, hm⟩ ⟨u, hu⟩
theorem msk_f {n : Nat} (hn : n ≤ 10) : (Int32.ofInt 1 <<< (nI n &&& 31)) - Int32.ofInt 1 = nI (2 ^ n - 1) := msk_f0 ⟨n, by omega⟩
def pcn (m : Nat) : Nat → Nat
  | 0 => 0
  | n + 1 => pcn m n + (if m.testBit n = true then 1 else 0)
theorem pcn_le (m : Nat) : ∀ n, pcn m n ≤ n := by
  intro n
  induction n with
  | zero => exact Nat.le_refl _
  | succ n ih => unfold pcn; split <;> omega
theorem or_bit (m t i : Nat) : (m ||| 2 ^ t).testBit i = (m.testBit i || decide (t = i)) := by
  rw [Nat.testBit_or, Nat.testBit_two_pow]
theorem pcn_or {m t : Nat} (h : m.testBit t = false) : ∀ n, pcn (m ||| 2 ^ t) n = pcn m n + (if t < n then 1 else 0) := by
  intro n
  induction n with
  | zero => rfl
  | succ n ih =>
    unfold pcn
    rw [ih, or_bit]
    by_cases e : t = n
    · subst e; simp [h]
    · have e2 : (t < n + 1 ↔ t < n) := by omega
      simp only [e, decide_false, Bool.or_false, e2]
      omega
theorem pcn_full {m : Nat} : ∀ n, n ≤ pcn m n → ∀ t, t < n → m.testBit t = true := by
  intro n
  induction n with
  | zero => intro _ t ht; omega
  | succ n ih =>
    intro h t ht
    have h1 := pcn_le m n
    unfold pcn at h
    split at h
    · rename_i hb
      rcases Nat.lt_or_ge t n with h2 | h2
      · exact ih (by omega) t h2
      · have e : t = n := by omega
        rw [e]; exact hb
    · omega
theorem or_lt {m t n : Nat} (hm : m < 2 ^ n) (ht : t < n) : m ||| 2 ^ t < 2 ^ n := Nat.or_lt_two_pow hm (Nat.pow_lt_pow_right (by decide) ht)
theorem all_bits {m n : Nat} (hm : m < 2 ^ n) (h : ∀ t, t < n → m.testBit t = true) : m = 2 ^ n - 1 := by
  apply Nat.eq_of_testBit_eq
  intro i
  rw [Nat.testBit_two_pow_sub_one]
  by_cases hi : i < n
  · rw [h i hi]; simp [hi]
  · rw [Nat.testBit_lt_two_pow (Nat.lt_of_lt_of_le hm (Nat.pow_le_pow_right (by decide) (by omega)))]; simp [hi]
section CHK
variable {X : Nat × (Nat → Int32)} {d : Nat} {S : am_S} {Q : am_R → Prop} {c : Nat} {τ : jTT}
theorem q_isPlain {w : Nat} (hw : w < 2 ^ 31) (h1 : 2 ≤ w ∧ w ≤ 10 → Q (.inl (some (.int 1)), S)) (h0 : ¬ (2 ≤ w ∧ w ≤ 10) → Q (.inl (some (.int 0)), S)) : ev X (d + 1) 12 [.ref c, .int (nI w)] S Q := by
  refine ev_wp (L0 := [some (.ref c), some (.int (nI w))]) (Nat.le_of_ble_eq_true rfl) rfl ?_
  iterate 2 refine wp_step rfl rfl ?_
  refine wp_icmp rfl (fun c0 => ?_) (fun c0 => ?_)
  · replace c0 := n_lt_t (a := w) (b := 2) (by omega) (by omega) c0
    refine wp_step rfl rfl ?_
    refine wp_iret rfl rfl rfl (h0 (by omega))
  · replace c0 := n_lt_f (a := w) (b := 2) (by omega) (by omega) c0
    iterate 2 refine wp_step rfl rfl ?_
    refine wp_icmp rfl (fun c2 => ?_) (fun c2 => ?_)
    · replace c2 := n_gt_t (a := w) (b := 10) (by omega) (by omega) c2
      refine wp_step rfl rfl ?_
      refine wp_iret rfl rfl rfl (h0 (by omega))
    · replace c2 := n_gt_f (a := w) (b := 10) (by omega) (by omega) c2
      iterate 2 refine wp_step rfl rfl ?_
      refine wp_iret rfl rfl rfl (h1 (by omega))
theorem q_tw {w : Nat} (hw : wfT τ) (h : ckO S c τ) (hc : c < 900000) (hw : w < 2 ^ 31) (hq : Q (.inl (some (.int (oI (tix τ w)))), S)) : ev X (d + 1) 11 [.ref c, .int (nI w)] S Q := by
  obtain ⟨⟨st, en, tk, fq, nc, h0⟩, h1, h2⟩ := h
  rename_i hwf
  exact q_typeWithId h0 h1 h2 (fun i x hx => by have := (wf_ty hwf hx).1; unfold tyOK at this; omega) hwf.1 hc hw hq
theorem q_isStructure {w : Nat} (hwf : wfT τ) (h : ckO S c τ) (hc : c < 900000) (hw : w < 2 ^ 31) (h1 : isKd τ w 0 → Q (.inl (some (.int 1)), S)) (h0 : ¬ isKd τ w 0 → Q (.inl (some (.int 0)), S)) : ev X (d + 2) 13 [.ref c, .int (nI w)] S Q := by
  obtain ⟨⟨st, en, tk, fq, nc, g0⟩, ⟨F, g1, gF⟩, g2⟩ := id h
  refine ev_wp (L0 := [some (.ref c), some (.int (nI w)), none]) (Nat.le_of_ble_eq_true rfl) rfl ?_
  iterate 2 refine wp_step rfl rfl ?_
  refine wp_c0 rfl rfl (by decide) rfl (recv_ok g0 rfl) rfl (q_tw hwf h hc hw ?_)
  iterate 2 refine wp_step rfl rfl ?_
  cases hx : tix τ w with
  | none =>
    refine wp_if_t rfl (by decide) ?_
    refine wp_step rfl rfl ?_
    refine wp_iret rfl rfl rfl (h0 (fun ⟨t, x, h9, _⟩ => by rw [hx] at h9; cases h9))
  | some t =>
    rw [show oI (some t) = nI t from rfl]
    obtain ⟨y, hy, hy1, ht⟩ := tix_some hx
    have hl := hwf.1
    have hty := (wf_ty hwf hy).1
    unfold tyOK at hty
    refine wp_if_f rfl (show am_c1 .lt (nI t) = false from decide_eq_false (nI_pos (by omega))) ?_
    refine wp_step rfl rfl ?_
    refine wp_getg rfl g0 (by decide) rfl ?_
    refine wp_step rfl rfl ?_
    refine wp_aald rfl (by omega) g1 (by decide) (am_in_nI (by omega) (by decide)) ?_
    rw [nI_clamp (by omega)]
    rw [gF t (by omega)]
    refine wp_getg (v := .int (nI y.2.2.1)) rfl (g2 t y hy).1 (by decide) rfl ?_
    refine wp_if rfl (fun c1 => ?_) (fun c1 => ?_)
    · replace c1 := z_ne_t (a := y.2.2.1) (by omega) c1
      refine wp_step rfl rfl ?_
      refine wp_iret rfl rfl rfl (h0 (fun ⟨t2, z, a1, a2, a3⟩ => by rw [hx] at a1; cases a1; rw [hy] at a2; cases a2; omega))
    · replace c1 := z_ne_f (a := y.2.2.1) (by omega) c1
      iterate 2 refine wp_step rfl rfl ?_
      refine wp_iret rfl rfl rfl (h1 ⟨t, y, hx, hy, by omega⟩)
theorem q_isForEvents {w : Nat} (hwf : wfT τ) (h : ckO S c τ) (hc : c < 900000) (hw : w < 2 ^ 31) (h1 : isKd τ w 1 → Q (.inl (some (.int 1)), S)) (h0 : ¬ isKd τ w 1 → Q (.inl (some (.int 0)), S)) : ev X (d + 2) 14 [.ref c, .int (nI w)] S Q := by
  obtain ⟨⟨st, en, tk, fq, nc, g0⟩, ⟨F, g1, gF⟩, g2⟩ := id h
  refine ev_wp (L0 := [some (.ref c), some (.int (nI w)), none]) (Nat.le_of_ble_eq_true rfl) rfl ?_
  iterate 2 refine wp_step rfl rfl ?_
  refine wp_c0 rfl rfl (by decide) rfl (recv_ok g0 rfl) rfl (q_tw hwf h hc hw ?_)
  iterate 2 refine wp_step rfl rfl ?_
  cases hx : tix τ w with
  | none =>
    refine wp_if_t rfl (by decide) ?_
    refine wp_step rfl rfl ?_
    refine wp_iret rfl rfl rfl (h0 (fun ⟨t, x, h9, _⟩ => by rw [hx] at h9; cases h9))
  | some t =>
    rw [show oI (some t) = nI t from rfl]
    obtain ⟨y, hy, hy1, ht⟩ := tix_some hx
    have hl := hwf.1
    have hty := (wf_ty hwf hy).1
    unfold tyOK at hty
    refine wp_if_f rfl (show am_c1 .lt (nI t) = false from decide_eq_false (nI_pos (by omega))) ?_
    refine wp_step rfl rfl ?_
    refine wp_getg rfl g0 (by decide) rfl ?_
    refine wp_step rfl rfl ?_
    refine wp_aald rfl (by omega) g1 (by decide) (am_in_nI (by omega) (by decide)) ?_
    rw [nI_clamp (by omega)]
    rw [gF t (by omega)]
    refine wp_getg (v := .int (nI y.2.2.1)) rfl (g2 t y hy).1 (by decide) rfl ?_
    refine wp_if rfl (fun c1 => ?_) (fun c1 => ?_)
    · replace c1 := z_eq_t (a := y.2.2.1) (by omega) c1
      refine wp_step rfl rfl ?_
      refine wp_iret rfl rfl rfl (h0 (fun ⟨t2, z, a1, a2, a3⟩ => by rw [hx] at a1; cases a1; rw [hy] at a2; cases a2; omega))
    · replace c1 := z_eq_f (a := y.2.2.1) (by omega) c1
      iterate 2 refine wp_step rfl rfl ?_
      refine wp_iret rfl rfl rfl (h1 ⟨t, y, hx, hy, by omega⟩)
set_option maxHeartbeats 1000000 in
theorem fh_in (hwf : wfT τ) (h : ckO S c τ) (hc : c < 900000) {t : Nat} {x : jTy} (hx : τ[t]? = some x) (hbad : ∀ (f : Nat) (y : jFd), x.2.2.2[f]? = some y → ¬ goodF τ y → Q (.inl (some (.int 0)), S)) :
    ∀ (m f : Nat) (x3 : Option Value), f + m = x.2.2.2.length → (∀ f9 x9, (∀ (f2 : Nat) (y : jFd), f ≤ f2 → x.2.2.2[f2]? = some y → goodF τ y) → wp X (d + 2) 8 77 [some (.ref c), some (.int (nI t)), some (.int (nI f9)), x9] [] S Q) →
      wp X (d + 2) 8 12 [some (.ref c), some (.int (nI t)), some (.int (nI f)), x3] [] S Q := by
  obtain ⟨⟨st, en, tk, fq, nc, g0⟩, ⟨F, g1, gF⟩, g2⟩ := id h
  have hlt := (wf_ty hwf hx).2
  have hxo := (wf_ty hwf hx).1
  unfold tyOK at hxo
  have hl := hwf.1
  intro m
  induction m with
  | zero =>
    intro f x3 hi hgo
    iterate 2 refine wp_step rfl rfl ?_
    refine wp_getg rfl g0 (by decide) rfl ?_
    refine wp_step rfl rfl ?_
    refine wp_aald rfl (by omega) g1 (by decide) (am_in_nI (by omega) (by decide)) ?_
    rw [nI_clamp (by omega)]
    rw [gF t (by omega)]
    refine wp_getg (v := .int (nI x.2.2.2.length)) rfl (g2 t x hx).1 (by decide) rfl ?_
    refine wp_icmp rfl (fun c0 => ?_) (fun c0 => ?_)
    · replace c0 := n_ge_t (a := f) (b := x.2.2.2.length) (by omega) (by omega) c0
      exact hgo _ _ (fun f2 y h8 h9 => by have := (List.getElem?_eq_some_iff.mp h9).1; omega)
    · replace c0 := n_ge_f (a := f) (b := x.2.2.2.length) (by omega) (by omega) c0
      omega
  | succ m ih =>
    intro f x3 hi hgo
    iterate 2 refine wp_step rfl rfl ?_
    refine wp_getg rfl g0 (by decide) rfl ?_
    refine wp_step rfl rfl ?_
    refine wp_aald rfl (by omega) g1 (by decide) (am_in_nI (by omega) (by decide)) ?_
    rw [nI_clamp (by omega)]
    rw [gF t (by omega)]
    refine wp_getg (v := .int (nI x.2.2.2.length)) rfl (g2 t x hx).1 (by decide) rfl ?_
    refine wp_icmp rfl (fun c0 => ?_) (fun c0 => ?_)
    · replace c0 := n_ge_t (a := f) (b := x.2.2.2.length) (by omega) (by omega) c0
      omega
    · replace c0 := n_ge_f (a := f) (b := x.2.2.2.length) (by omega) (by omega) c0
      obtain ⟨y, hy⟩ : ∃ y, x.2.2.2[f]? = some y := ⟨x.2.2.2[f], List.getElem?_eq_getElem (by omega)⟩
      have hyo := (wf_fd hwf hx hy).1
      unfold fdOK at hyo
      obtain ⟨q0, f1, f2, f3, q1, q2, q3, q4⟩ := g2 t x hx
      refine wp_step rfl rfl ?_
      refine wp_getg rfl g0 (by decide) rfl ?_
      refine wp_step rfl rfl ?_
      refine wp_aald rfl (by omega) g1 (by decide) (am_in_nI (by omega) (by decide)) ?_
      rw [nI_clamp (by omega)]
      rw [gF t (by omega)]
      refine wp_getg rfl q0 (by decide) rfl ?_
      refine wp_step rfl rfl ?_
      refine wp_ald rfl (Or.inl ⟨rfl, rfl⟩) (by omega) q2 (am_in_nI (by omega) (by decide)) ?_
      rw [nI_clamp (by omega)]
      rw [(q4 f y hy).2.1]
      have on : goodF τ y → wp X (d + 2) 8 71 [some (.ref c), some (.int (nI t)), some (.int (nI f)), some (.int (nI y.2.1))] [] S Q := by
        intro hg
        iterate 2 refine wp_step rfl rfl ?_
        rw [show nI f + Int32.ofInt 1 = nI (f + 1) from nI_add f 1]
        exact ih (f + 1) _ (by omega) (fun f9 x9 h9 => hgo f9 x9 (fun f2 z h8 h10 => by
          rcases Nat.eq_or_lt_of_le h8 with e | e
          · subst e; rw [hy] at h10; cases h10; exact hg
          · exact h9 f2 z e h10))
      iterate 3 refine wp_step rfl rfl ?_
      refine wp_c0 rfl rfl (by decide) rfl (recv_ok g0 rfl) rfl (q_isPlain (by omega) (fun hp => ?_) (fun hp => ?_))
      · refine wp_if_t rfl (by decide) ?_
        exact on (Or.inl hp)
      · refine wp_if_f rfl (by decide) ?_
        iterate 2 refine wp_step rfl rfl ?_
        refine wp_c0 rfl rfl (by decide) rfl (recv_ok g0 rfl) rfl (q_isStructure hwf h hc (by omega) (fun hs => ?_) (fun hs => ?_))
        · refine wp_if_f rfl (by decide) ?_
          obtain ⟨u, z, hu, hz, hz0⟩ := hs
          have hul := (wf_ty hwf hz).2
          have hzo := (wf_ty hwf hz).1
          unfold tyOK at hzo
          refine wp_step rfl rfl ?_
          refine wp_getg rfl g0 (by decide) rfl ?_
          iterate 2 refine wp_step rfl rfl ?_
          refine wp_c0 rfl rfl (by decide) rfl (recv_ok g0 rfl) rfl (q_tw hwf h hc (by omega) ?_)
          rw [hu]
          show wp X (d + 2) 8 62 _ [.int (nI u), .ref (c + 1)] S Q
          refine wp_aald rfl (by omega) g1 (by decide) (am_in_nI (by omega) (by decide)) ?_
          rw [nI_clamp (by omega)]
          rw [gF u (by omega)]
          refine wp_getg (v := .int (nI z.2.2.2.length)) rfl (g2 u z hz).1 (by decide) rfl ?_
          refine wp_if rfl (fun c2 => ?_) (fun c2 => ?_)
          · replace c2 := z_ne_t (a := z.2.2.2.length) (by omega) c2
            exact on (Or.inr ⟨u, z, hu, hz, hz0, c2⟩)
          · replace c2 := z_ne_f (a := z.2.2.2.length) (by omega) c2
            refine wp_step rfl rfl ?_
            refine wp_iret rfl rfl rfl (hbad f y hy (fun h9 => by
              rcases h9 with h9 | ⟨u2, z2, h10, h11, h12, h13⟩
              · exact hp h9
              · rw [hu] at h10; cases h10; rw [hz] at h11; cases h11; exact h13 c2))
        · refine wp_if_t rfl (by decide) ?_
          refine wp_step rfl rfl ?_
          refine wp_iret rfl rfl rfl (hbad f y hy (fun h9 => by
            rcases h9 with h9 | ⟨u, z, h10, h11, h12, h13⟩
            · exact hp h9
            · exact hs ⟨u, z, h10, h11, h12⟩))
theorem fh_out (hwf : wfT τ) (h : ckO S c τ) (hc : c < 900000) (h1 : fht τ → Q (.inl (some (.int 1)), S)) (h0 : ¬ fht τ → Q (.inl (some (.int 0)), S)) :
    ∀ (m t : Nat) (x2 x3 : Option Value), t + m = τ.length → (∀ (t2 : Nat) (x : jTy) (f : Nat) (y : jFd), t2 < t → τ[t2]? = some x → x.2.2.2[f]? = some y → goodF τ y) → wp X (d + 2) 8 2 [some (.ref c), some (.int (nI t)), x2, x3] [] S Q := by
  obtain ⟨⟨st, en, tk, fq, nc, g0⟩, ⟨F, g1, gF⟩, g2⟩ := id h
  have hl := hwf.1
  intro m
  induction m with
  | zero =>
    intro t x2 x3 hi hpre
    iterate 2 refine wp_step rfl rfl ?_
    refine wp_getg rfl g0 (by decide) rfl ?_
    refine wp_icmp rfl (fun c0 => ?_) (fun c0 => ?_)
    · replace c0 := n_ge_t (a := t) (b := τ.length) (by omega) (by omega) c0
      refine wp_step rfl rfl ?_
      refine wp_iret rfl rfl rfl (h1 (fun t2 x f y a1 a2 => hpre t2 x f y (by have := (List.getElem?_eq_some_iff.mp a1).1; omega) a1 a2))
    · replace c0 := n_ge_f (a := t) (b := τ.length) (by omega) (by omega) c0
      omega
  | succ m ih =>
    intro t x2 x3 hi hpre
    iterate 2 refine wp_step rfl rfl ?_
    refine wp_getg rfl g0 (by decide) rfl ?_
    refine wp_icmp rfl (fun c0 => ?_) (fun c0 => ?_)
    · replace c0 := n_ge_t (a := t) (b := τ.length) (by omega) (by omega) c0
      omega
    · replace c0 := n_ge_f (a := t) (b := τ.length) (by omega) (by omega) c0
      obtain ⟨x, hx⟩ : ∃ x, τ[t]? = some x := ⟨τ[t], List.getElem?_eq_getElem (by omega)⟩
      iterate 2 refine wp_step rfl rfl ?_
      refine fh_in hwf h hc hx (fun f y hy hn => h0 (fun h9 => hn (h9 t x f y hx hy))) x.2.2.2.length 0 _ (by omega) (fun f9 x9 hall => ?_)
      iterate 2 refine wp_step rfl rfl ?_
      rw [show nI t + Int32.ofInt 1 = nI (t + 1) from nI_add t 1]
      refine ih (t + 1) _ _ (by omega) (fun t2 x2 f2 y2 h8 a1 a2 => ?_)
      rcases Nat.eq_or_lt_of_le (Nat.le_of_lt_succ h8) with e | e
      · subst e; rw [hx] at a1; cases a1; exact hall f2 y2 (Nat.zero_le _) a2
      · exact hpre t2 x2 f2 y2 e a1 a2
theorem q_fieldsHaveTypes (hwf : wfT τ) (h : ckO S c τ) (hc : c < 900000) (h1 : fht τ → Q (.inl (some (.int 1)), S)) (h0 : ¬ fht τ → Q (.inl (some (.int 0)), S)) : ev X (d + 3) 8 [.ref c] S Q := by
  refine ev_wp (L0 := [some (.ref c), none, none, none]) (Nat.le_of_ble_eq_true rfl) rfl ?_
  iterate 2 refine wp_step rfl rfl ?_
  exact fh_out hwf h hc h1 h0 τ.length 0 _ _ (by omega) (fun t2 x f y h9 => by omega)
end CHK
