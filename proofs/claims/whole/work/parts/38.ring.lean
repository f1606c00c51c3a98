/-! Chunk.holdsOnly, Chunk.someHoldItself -/
section RING
variable {X : Nat × (Nat → Int32)} {d : Nat} {S : am_S} {Q : am_R → Prop} {c : Nat} {τ : jTT}
set_option maxHeartbeats 1000000 in
theorem ho_loop (hwf : wfT τ) (h : ckO S c τ) (hc : c < 900000) {t m : Nat} {x : jTy} (hx : τ[t]? = some x) (hm : m < 1024) (h1 : (∀ u, edge τ t u → m.testBit u = true) → Q (.inl (some (.int 1)), S)) (h0 : ∀ u, edge τ t u → m.testBit u = false → Q (.inl (some (.int 0)), S)) :
    ∀ (j f : Nat) (x4 x5 : Option Value), f + j = x.2.2.2.length → (∀ (f2 : Nat) (y : jFd) (u : Nat), f2 < f → x.2.2.2[f2]? = some y → y.2.2 % 2 = 0 → tix τ y.2.1 = some u → m.testBit u = true) →
      wp X (d + 1) 10 2 [some (.ref c), some (.ref (c + 5 + 4 * t)), some (.int (nI m)), some (.int (nI f)), x4, x5] [] S Q := by
  obtain ⟨⟨st, en, tk, fq, nc, g0⟩, ⟨F, g1, gF⟩, g2⟩ := id h
  have hlt := (wf_ty hwf hx).2
  have hxo := (wf_ty hwf hx).1
  unfold tyOK at hxo
  have hl := hwf.1
  obtain ⟨q0, f1, f2, f3, q1, q2, q3, q4⟩ := g2 t x hx
  intro j
  induction j with
  | zero =>
    intro f x4 x5 hi hpre
    iterate 2 refine wp_step rfl rfl ?_
    refine wp_getg rfl q0 (by decide) rfl ?_
    refine wp_icmp rfl (fun c0 => ?_) (fun c0 => ?_)
    · replace c0 := n_ge_t (a := f) (b := x.2.2.2.length) (by omega) (by omega) c0
      refine wp_step rfl rfl ?_
      refine wp_iret rfl rfl rfl (h1 (fun u ⟨x2, f2, y2, a1, a2, a3, a4⟩ => by rw [hx] at a1; cases a1; exact hpre f2 y2 u (by have := (List.getElem?_eq_some_iff.mp a2).1; omega) a2 a3 a4))
    · replace c0 := n_ge_f (a := f) (b := x.2.2.2.length) (by omega) (by omega) c0
      omega
  | succ j ih =>
    intro f x4 x5 hi hpre
    iterate 2 refine wp_step rfl rfl ?_
    refine wp_getg rfl q0 (by decide) rfl ?_
    refine wp_icmp rfl (fun c0 => ?_) (fun c0 => ?_)
    · replace c0 := n_ge_t (a := f) (b := x.2.2.2.length) (by omega) (by omega) c0
      omega
    · replace c0 := n_ge_f (a := f) (b := x.2.2.2.length) (by omega) (by omega) c0
      obtain ⟨y, hy⟩ : ∃ y, x.2.2.2[f]? = some y := ⟨x.2.2.2[f], List.getElem?_eq_getElem (by omega)⟩
      have hyo := (wf_fd hwf hx hy).1
      unfold fdOK at hyo
      have on : ∀ x4 x5, (∀ u, y.2.2 % 2 = 0 → tix τ y.2.1 = some u → m.testBit u = true) → wp X (d + 1) 10 61 [some (.ref c), some (.ref (c + 5 + 4 * t)), some (.int (nI m)), some (.int (nI f)), x4, x5] [] S Q := by
        intro x4 x5 hg
        iterate 2 refine wp_step rfl rfl ?_
        rw [show nI f + Int32.ofInt 1 = nI (f + 1) from nI_add f 1]
        exact ih (f + 1) _ _ (by omega) (fun f2 y2 u h8 a2 a3 a4 => by
          rcases Nat.eq_or_lt_of_le (Nat.le_of_lt_succ h8) with e | e
          · subst e; rw [hy] at a2; cases a2; exact hg u a3 a4
          · exact hpre f2 y2 u e a2 a3 a4)
      iterate 2 refine wp_step rfl rfl ?_
      refine wp_getg rfl q0 (by decide) rfl ?_
      refine wp_step rfl rfl ?_
      refine wp_ald rfl (Or.inl ⟨rfl, rfl⟩) (by omega) q2 (am_in_nI (by omega) (by decide)) ?_
      rw [nI_clamp (by omega)]
      rw [(q4 f y hy).2.1]
      refine wp_c0 rfl rfl (by decide) rfl (recv_ok g0 rfl) rfl (q_tw hwf h hc (by omega) ?_)
      iterate 2 refine wp_step rfl rfl ?_
      refine wp_getg rfl q0 (by decide) rfl ?_
      refine wp_step rfl rfl ?_
      refine wp_ald rfl (Or.inl ⟨rfl, rfl⟩) (by omega) q3 (am_in_nI (by omega) (by decide)) ?_
      rw [nI_clamp (by omega)]
      rw [(q4 f y hy).2.2]
      iterate 2 refine wp_step rfl rfl ?_
      rw [pk_andN (by omega) 1 rfl]
      refine wp_if rfl (fun c1 => ?_) (fun c1 => ?_)
      · replace c1 := z_eq_t (a := y.2.2 % 2 ^ 1) (by omega) c1
        iterate 3 refine wp_step rfl rfl ?_
        refine wp_if_f rfl (by decide) ?_
        refine wp_step rfl rfl ?_
        cases hu : tix τ y.2.1 with
        | none =>
          refine wp_if_t rfl (by decide) ?_
          exact on _ _ (fun u _ h9 => by rw [hu] at h9; cases h9)
        | some u =>
          rw [show oI (some u) = nI u from rfl]
          obtain ⟨z, hz, hz1, hul⟩ := tix_some hu
          refine wp_if_f rfl (show am_c1 .lt (nI u) = false from decide_eq_false (nI_pos (by omega))) ?_
          iterate 5 refine wp_step rfl rfl ?_
          refine wp_if rfl (fun c2 => ?_) (fun c2 => ?_)
          · rw [msk_t hm (by omega)] at c2
            exact on _ _ (fun u2 _ h9 => by rw [hu] at h9; cases h9; exact c2)
          · rw [msk_t hm (by omega)] at c2
            refine wp_step rfl rfl ?_
            refine wp_iret rfl rfl rfl (h0 u ⟨x, f, y, hx, hy, by omega, hu⟩ c2)
      · replace c1 := z_eq_f (a := y.2.2 % 2 ^ 1) (by omega) c1
        iterate 4 refine wp_step rfl rfl ?_
        refine wp_if_t rfl (by decide) ?_
        exact on _ _ (fun u h8 => by omega)
theorem q_holdsOnly (hwf : wfT τ) (h : ckO S c τ) (hc : c < 900000) {t m : Nat} {x : jTy} (hx : τ[t]? = some x) (hm : m < 1024) (h1 : (∀ u, edge τ t u → m.testBit u = true) → Q (.inl (some (.int 1)), S)) (h0 : ∀ u, edge τ t u → m.testBit u = false → Q (.inl (some (.int 0)), S)) : ev X (d + 2) 10 [.ref c, .ref (c + 5 + 4 * t), .int (nI m)] S Q := by
  refine ev_wp (L0 := [some (.ref c), some (.ref (c + 5 + 4 * t)), some (.int (nI m)), none, none, none]) (Nat.le_of_ble_eq_true rfl) rfl ?_
  iterate 2 refine wp_step rfl rfl ?_
  exact ho_loop hwf h hc hx hm h1 h0 x.2.2.2.length 0 _ _ (by omega) (fun f2 y u h9 => by omega)
def stuckAt (τ : jTT) (m s : Nat) : Prop := ∃ u, edge τ s u ∧ m.testBit u = false
def stuck (τ : jTT) (m : Nat) : Prop := ∀ s, s < τ.length → m.testBit s = false → stuckAt τ m s
/-- what is cleared is in order -/
def okM (τ : jTT) (m : Nat) : Prop := m < 2 ^ τ.length ∧ ∃ rk : Nat → Nat, (∀ t, m.testBit t = true → rk t < pcn m τ.length) ∧ ∀ t u, m.testBit t = true → edge τ t u → m.testBit u = true ∧ rk u < rk t
theorem okM_add {m t : Nat} (h : okM τ m) (ht : t < τ.length) (hb : m.testBit t = false) (he : ∀ u, edge τ t u → m.testBit u = true) : okM τ (m ||| 2 ^ t) ∧ pcn (m ||| 2 ^ t) τ.length = pcn m τ.length + 1 := by
  obtain ⟨h1, rk, h2, h3⟩ := h
  have hp : pcn (m ||| 2 ^ t) τ.length = pcn m τ.length + 1 := by rw [pcn_or hb, if_pos ht]
  refine ⟨⟨or_lt h1 ht, va_up rk t (pcn m τ.length), fun s hs => ?_, fun s u hs hsu => ?_⟩, hp⟩
  · rw [hp]
    unfold va_up
    split
    · omega
    · rename_i hne
      rw [or_bit] at hs
      have hms : m.testBit s = true := by simpa [show ¬ t = s from fun e => hne e.symm] using hs
      have := h2 s hms
      omega
  · have hmu : m.testBit u = true := by
      by_cases e : s = t
      · subst e; exact he u hsu
      · rw [or_bit] at hs
        have hms : m.testBit s = true := by simpa [show ¬ t = s from fun e2 => e e2.symm] using hs
        exact (h3 s u hms hsu).1
    refine ⟨by rw [or_bit, hmu]; rfl, ?_⟩
    have hut : ¬ u = t := fun e => by rw [e, hb] at hmu; cases hmu
    unfold va_up
    rw [if_neg hut]
    split
    · exact h2 u hmu
    · rename_i hne
      rw [or_bit] at hs
      have hms : m.testBit s = true := by simpa [show ¬ t = s from fun e => hne e.symm] using hs
      exact (h3 s u hms hsu).2
theorem or_self {m t : Nat} (h : m.testBit t = true) : m ||| 2 ^ t = m := by
  apply Nat.eq_of_testBit_eq
  intro i
  rw [or_bit]
  by_cases e : t = i
  · subst e; simp [h]
  · simp [e]
theorem lt1024 {m : Nat} (hl : τ.length ≤ 10) (h : m < 2 ^ τ.length) : m < 1024 := Nat.lt_of_lt_of_le h (Nat.pow_le_pow_right (n := 2) (by decide) hl)
set_option maxHeartbeats 1000000 in
theorem sh_in (hwf : wfT τ) (h : ckO S c τ) (hc : c < 900000) {m0 : Nat} {x2 : Int32} (hgo : ∀ m x3, okM τ m → (m = m0 ∧ stuck τ m) ∨ (¬ stuck τ m0 ∧ pcn m0 τ.length + 1 ≤ pcn m τ.length) → wp X (d + 2) 9 48 [some (.ref c), some (.int (nI m)), some (.int x2), x3] [] S Q) :
    ∀ (j t m : Nat), t + j = τ.length → okM τ m → ((m = m0 ∧ ∀ s, s < t → m.testBit s = false → stuckAt τ m s) ∨ (¬ stuck τ m0 ∧ pcn m0 τ.length + 1 ≤ pcn m τ.length)) → wp X (d + 2) 9 14 [some (.ref c), some (.int (nI m)), some (.int x2), some (.int (nI t))] [] S Q := by
  obtain ⟨⟨st, en, tk, fq, nc, g0⟩, ⟨F, g1, gF⟩, g2⟩ := id h
  have hl := hwf.1
  intro j
  induction j with
  | zero =>
    intro t m hi hok hI
    iterate 2 refine wp_step rfl rfl ?_
    refine wp_getg rfl g0 (by decide) rfl ?_
    refine wp_icmp rfl (fun c0 => ?_) (fun c0 => ?_)
    · replace c0 := n_ge_t (a := t) (b := τ.length) (by omega) (by omega) c0
      have e : t = τ.length := by omega
      exact hgo m _ hok (by
        rcases hI with ⟨e1, h9⟩ | h9
        · left; subst e1; exact ⟨rfl, fun s hs hb => h9 s (by omega) hb⟩
        · right; exact h9)
    · replace c0 := n_ge_f (a := t) (b := τ.length) (by omega) (by omega) c0
      omega
  | succ j ih =>
    intro t m hi hok hI
    iterate 2 refine wp_step rfl rfl ?_
    refine wp_getg rfl g0 (by decide) rfl ?_
    refine wp_icmp rfl (fun c0 => ?_) (fun c0 => ?_)
    · replace c0 := n_ge_t (a := t) (b := τ.length) (by omega) (by omega) c0
      omega
    · replace c0 := n_ge_f (a := t) (b := τ.length) (by omega) (by omega) c0
      obtain ⟨x, hx⟩ : ∃ x, τ[t]? = some x := ⟨τ[t], List.getElem?_eq_getElem (by omega)⟩
      have hm := lt1024 hl hok.1
      iterate 2 refine wp_step rfl rfl ?_
      refine wp_getg rfl g0 (by decide) rfl ?_
      refine wp_step rfl rfl ?_
      refine wp_aald rfl (by omega) g1 (by decide) (am_in_nI (by omega) (by decide)) ?_
      rw [nI_clamp (by omega)]
      rw [gF t (by omega)]
      refine wp_step rfl rfl ?_
      refine wp_c0 rfl rfl (by decide) rfl (recv_ok g0 rfl) rfl (q_holdsOnly hwf h hc hx hm (fun he => ?_) (fun u he hb => ?_))
      · refine wp_if_f rfl (by decide) ?_
        iterate 6 refine wp_step rfl rfl ?_
        rw [msk_o hm (by omega)]
        iterate 2 refine wp_step rfl rfl ?_
        rw [show nI t + Int32.ofInt 1 = nI (t + 1) from nI_add t 1]
        cases hb : m.testBit t with
        | true =>
          rw [or_self hb]
          refine ih (t + 1) m (by omega) hok ?_
          rcases hI with ⟨e1, h9⟩ | h9
          · left
            refine ⟨e1, fun s hs hsb => ?_⟩
            rcases Nat.eq_or_lt_of_le (Nat.le_of_lt_succ hs) with e | e
            · subst e; rw [hb] at hsb; cases hsb
            · exact h9 s e hsb
          · right; exact h9
        | false =>
          obtain ⟨h8, h9⟩ := okM_add hok (by omega) hb he
          refine ih (t + 1) _ (by omega) h8 (Or.inr ?_)
          rcases hI with ⟨e1, h10⟩ | ⟨h10, h11⟩
          · subst e1
            refine ⟨fun h12 => ?_, by omega⟩
            obtain ⟨u, hu, hub⟩ := h12 t (by omega) hb
            rw [he u hu] at hub
            cases hub
          · exact ⟨h10, by omega⟩
      · refine wp_if_t rfl (by decide) ?_
        iterate 2 refine wp_step rfl rfl ?_
        rw [show nI t + Int32.ofInt 1 = nI (t + 1) from nI_add t 1]
        refine ih (t + 1) m (by omega) hok ?_
        rcases hI with ⟨e1, h9⟩ | h9
        · left
          refine ⟨e1, fun s hs hsb => ?_⟩
          rcases Nat.eq_or_lt_of_le (Nat.le_of_lt_succ hs) with e | e
          · subst e; exact ⟨u, he, hb⟩
          · exact h9 s e hsb
        · right; exact h9
theorem sh_out (hwf : wfT τ) (h : ckO S c τ) (hc : c < 900000) (hgo : ∀ m x3, okM τ m → stuck τ m ∨ (∀ t, t < τ.length → m.testBit t = true) → wp X (d + 2) 9 54 [some (.ref c), some (.int (nI m)), some (.int (nI τ.length)), x3] [] S Q) :
    ∀ (j k m : Nat) (x3 : Option Value), k + j = τ.length → okM τ m → stuck τ m ∨ k ≤ pcn m τ.length → wp X (d + 2) 9 4 [some (.ref c), some (.int (nI m)), some (.int (nI k)), x3] [] S Q := by
  obtain ⟨⟨st, en, tk, fq, nc, g0⟩, ⟨F, g1, gF⟩, g2⟩ := id h
  have hl := hwf.1
  intro j
  induction j with
  | zero =>
    intro k m x3 hi hok hI
    have e : k = τ.length := by omega
    subst e
    iterate 2 refine wp_step rfl rfl ?_
    refine wp_getg rfl g0 (by decide) rfl ?_
    refine wp_icmp rfl (fun c0 => ?_) (fun c0 => ?_)
    · replace c0 := n_ge_t (a := τ.length) (b := τ.length) (by omega) (by omega) c0
      exact hgo m _ hok (by
        rcases hI with h9 | h9
        · exact Or.inl h9
        · right; intro t ht; exact pcn_full τ.length (by omega) t ht)
    · replace c0 := n_ge_f (a := τ.length) (b := τ.length) (by omega) (by omega) c0
      omega
  | succ j ih =>
    intro k m x3 hi hok hI
    iterate 2 refine wp_step rfl rfl ?_
    refine wp_getg rfl g0 (by decide) rfl ?_
    refine wp_icmp rfl (fun c0 => ?_) (fun c0 => ?_)
    · replace c0 := n_ge_t (a := k) (b := τ.length) (by omega) (by omega) c0
      omega
    · replace c0 := n_ge_f (a := k) (b := τ.length) (by omega) (by omega) c0
      iterate 2 refine wp_step rfl rfl ?_
      refine sh_in hwf h hc (m0 := m) (fun m2 x3 h8 h9 => ?_) τ.length 0 m (by omega) hok (Or.inl ⟨rfl, fun s hs => by omega⟩)
      iterate 2 refine wp_step rfl rfl ?_
      rw [show nI k + Int32.ofInt 1 = nI (k + 1) from nI_add k 1]
      refine ih (k + 1) m2 _ (by omega) h8 ?_
      rcases h9 with ⟨_, h10⟩ | ⟨h10, h11⟩
      · exact Or.inl h10
      · rcases hI with h12 | h12
        · exact absurd h12 h10
        · right; omega
set_option maxHeartbeats 1000000 in
theorem q_someHoldItself (hwf : wfT τ) (h : ckO S c τ) (hc : c < 900000) (h1 : ring τ → Q (.inl (some (.int 1)), S)) (h0 : nocyc τ → Q (.inl (some (.int 0)), S)) : ev X (d + 3) 9 [.ref c] S Q := by
  obtain ⟨⟨st, en, tk, fq, nc, g0⟩, ⟨F, g1, gF⟩, g2⟩ := id h
  have hl := hwf.1
  refine ev_wp (L0 := [some (.ref c), none, none, none]) (Nat.le_of_ble_eq_true rfl) rfl ?_
  iterate 4 refine wp_step rfl rfl ?_
  refine sh_out hwf h hc (fun m x3 hok hI => ?_) τ.length 0 0 _ (by omega) ⟨Nat.two_pow_pos _, fun _ => 0, fun t ht => by simp at ht, fun t u ht => by simp at ht⟩ (Or.inr (Nat.zero_le _))
  iterate 3 refine wp_step rfl rfl ?_
  refine wp_getg rfl g0 (by decide) rfl ?_
  iterate 3 refine wp_step rfl rfl ?_
  rw [msk_f hl]
  have hm := lt1024 hl hok.1
  have h2 : 2 ^ τ.length - 1 < 1024 := lt1024 hl (Nat.sub_lt (Nat.two_pow_pos _) (by decide))
  refine wp_icmp rfl (fun c1 => ?_) (fun c1 => ?_)
  · replace c1 := n_eq_t (a := m) (b := 2 ^ τ.length - 1) (by omega) (by omega) c1
    refine wp_step rfl rfl ?_
    refine wp_iret rfl rfl rfl (h0 ?_)
    subst c1
    obtain ⟨h3, rk, h4, h5⟩ := hok
    have hall : ∀ t, t < τ.length → (2 ^ τ.length - 1).testBit t = true := fun t ht => by rw [Nat.testBit_two_pow_sub_one]; simp [ht]
    refine ⟨fun t => if t < τ.length then rk t else 0, fun t => ?_, fun t u he => ?_⟩
    · dsimp only
      split
      · rename_i ht
        have h6 := h4 t (hall t ht)
        have h7 := pcn_le (2 ^ τ.length - 1) τ.length
        omega
      · omega
    · obtain ⟨a1, a2⟩ := edge_lt he
      dsimp only
      rw [if_pos a1, if_pos a2]
      exact (h5 t u (hall t a1) he).2
  · replace c1 := n_eq_f (a := m) (b := 2 ^ τ.length - 1) (by omega) (by omega) c1
    iterate 2 refine wp_step rfl rfl ?_
    refine wp_iret rfl rfl rfl (h1 ?_)
    rcases hI with h3 | h3
    · have hex : ∃ t, t < τ.length ∧ m.testBit t = false := by
        refine Classical.byContradiction (fun hn => c1 (all_bits hok.1 (fun t ht => ?_)))
        cases hb : m.testBit t with
        | true => rfl
        | false => exact absurd ⟨t, ht, hb⟩ hn
      obtain ⟨t, ht, hb⟩ := hex
      refine ⟨fun s => s < τ.length ∧ m.testBit s = false, ⟨t, ht, hb⟩, fun s hs => ⟨hs.1, ?_⟩⟩
      obtain ⟨u, hu, hub⟩ := h3 s hs.1 hs.2
      exact ⟨u, ⟨(edge_lt hu).2, hub⟩, hu⟩
    · exact absurd (all_bits hok.1 h3) c1
end RING
