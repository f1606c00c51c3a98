/-! Source while a recording is read: the bytes b, tot of them, and its methods with what follows as the end condition -/
theorem cnum_congr {B B' : Nat → Int32} {lim : Nat} (h : ∀ j, j < lim → B j = B' j) : ∀ (n k p : Nat) (v : Int64), cnum B lim n k p v = cnum B' lim n k p v := by
  intro n
  induction n with
  | zero => intro k p v; rfl
  | succ n ih =>
    intro k p v
    unfold cnum
    by_cases hp : lim ≤ p
    · rw [if_pos hp, if_pos hp]
    · rw [if_neg hp, if_neg hp, h p (by omega), ih]
theorem num9_congr {B B' : Nat → Int32} {lim p : Nat} (h : ∀ j, j < lim → B j = B' j) : num9 B lim p = num9 B' lim p := cnum_congr h _ _ _ _
theorem cnt_congr {B B' : Nat → Int32} {lim p : Nat} (h : ∀ j, j < lim → B j = B' j) : cnt B lim p = cnt B' lim p := by
  unfold cnt
  rw [num9_congr h]
theorem hd_congr {B B' : Nat → Int32} {s e : Nat} (h : ∀ j, j < e → B j = B' j) : hd B s e = hd B' s e := by
  unfold hd
  rw [cnt_congr h]
  split
  · rfl
  · rw [cnt_congr h]
theorem fx_congr {B B' : Nat → Int32} {p : Nat} : ∀ {n : Nat}, (∀ j, p ≤ j → j < p + n → B j = B' j) → fx B p n = fx B' p n := by
  intro n
  induction n with
  | zero => intro _; rfl
  | succ n ih =>
    intro h
    unfold fx
    rw [ih (fun j h1 h2 => h j h1 (by omega)), h (p + n) (by omega) (by omega)]
theorem hd_ok {B : Nat → Int32} {s e len id p1 p2 : Nat} (h : hd B s e = .inr (len, id, p1, p2)) : 2 ≤ len ∧ len ≤ e - s ∧ s < p1 ∧ p1 < p2 ∧ p2 ≤ s + len ∧ id < 2 ^ 31 ∧ p2 ≤ e := by
  unfold hd at h
  split at h
  · cases h
  · rename_i l q hc
    split at h
    · cases h
    · split at h
      · cases h
      · rename_i i q2 hc2
        split at h
        · cases h
        · cases h
          have h1 := cnt_lt hc
          have h2 := cnt_lt hc2
          refine ⟨by omega, by omega, by omega, by omega, by omega, by omega, by omega⟩
abbrev Bn (b : Nat → Nat) : Nat → Int32 := fun j => nI (b j)
def sB (S : am_S) (b : Nat → Nat) (tot : Nat) : Prop := ∃ fb, am_get S 2 = some (.inl (2, 960, .inl fb)) ∧ ∀ j, j < tot → fb j &&& 255 = nI (b j)
def sK (S : am_S) (b : Nat → Nat) (tot pos lim idp : Nat) : Prop := am_get S 1 = some (src 0 tot pos lim idp 0 (-1)) ∧ sB S b tot ∧ tot ≤ 960 ∧ lim ≤ tot ∧ pos ≤ lim ∧ idp ≤ 960
/-- a fault was told -/
def sX (S : am_S) (tot : Nat) (k : Int32) (pl : Nat) : Prop := ∃ q l i, q ≤ 960 ∧ l ≤ 960 ∧ i ≤ 960 ∧ am_get S 1 = some (src 0 tot q l i k (nI pl))
theorem sB_fr {js : List Nat} {S T : am_S} {b : Nat → Nat} {tot : Nat} (h : sB S b tot) (hf : fr js S T) (h2 : 2 ∉ js) : sB T b tot := by
  obtain ⟨fb, h1, h3⟩ := h
  exact ⟨fb, by rw [fr_get hf h2]; exact h1, h3⟩
theorem sK_fr {js : List Nat} {S T : am_S} {b : Nat → Nat} {tot pos lim idp : Nat} (h : sK S b tot pos lim idp) (hf : fr js S T) (h1 : 1 ∉ js) (h2 : 2 ∉ js) : sK T b tot pos lim idp :=
  ⟨by rw [fr_get hf h1]; exact h.1, sB_fr h.2.1 hf h2, h.2.2⟩
theorem sX_fr {js : List Nat} {S T : am_S} {tot : Nat} {k : Int32} {pl : Nat} (h : sX S tot k pl) (hf : fr js S T) (h1 : 1 ∉ js) : sX T tot k pl := by
  obtain ⟨q, l, i, a1, a2, a3, a4⟩ := h
  exact ⟨q, l, i, a1, a2, a3, by rw [fr_get hf h1]; exact a4⟩
section READ
variable {X : Nat × (Nat → Int32)} {d k pc : Nat} {L : am_L} {S : am_S} {Q : am_R → Prop} {b : Nat → Nat} {tot pos lim idp : Nat}
theorem sK_up {x : Nat} (h : sK S b tot pos lim idp) {p l i : Nat} (h1 : l ≤ tot) (h2 : p ≤ l) (h3 : i ≤ 960) : fr [1] S (am_upd S 1 (src 0 tot p l i 0 (-1))) ∧ sK (am_upd S 1 (src 0 tot p l i 0 (-1))) b tot p l i :=
  ⟨fr_up (by decide), am_get_self h.1, sB_fr h.2.1 (fr_up (js := [1]) (by decide)) (by decide), h.2.2.1, h1, h2, h3⟩
theorem sX_up {x : am_C} (h : am_get S 1 = some x) {q l i : Nat} {k : Int32} {pl : Nat} (h1 : q ≤ 960) (h2 : l ≤ 960) (h3 : i ≤ 960) : sX (am_upd S 1 (src 0 tot q l i k (nI pl))) tot k pl :=
  ⟨q, l, i, h1, h2, h3, am_get_self h⟩
theorem wp_fl {x len w : Nat} {cst : Int} {a : Int32} {pl : Nat} (hi : am_P k pc = some (.invokevirtual x, len, 44, 3, w, cst)) (hh : (am_M1 k).2.2.2.2 = []) (h : sK S b tot pos lim idp) (hq : ∀ T, fr [1] S T → sX T tot a pl → Q (.inr IAE, am_thrown T)) : wp X (d + 1) k pc L [.int (nI pl), .int a, .ref 1] S Q := by
  have h2 := h.2.2
  exact wp_fail hi hh h.1 (hq _ (fr_up (by decide)) (sX_up h.1 (by omega) (by omega) (by omega)))
theorem q_number (h : sK S b tot pos lim idp) (hret : ∀ v p' T, num9 (Bn b) lim pos = some (v, p') → fr [1] S T → sK T b tot p' lim idp → Q (.inl (some (.long v)), T)) (hthr : ∀ T, num9 (Bn b) lim pos = none → fr [1] S T → sX T tot 2 pos → Q (.inr IAE, am_thrown T)) : ev X (d + 2) 49 [.ref 1] S Q := by
  obtain ⟨h1, ⟨fb, hB, hb⟩, h2⟩ := h
  refine ev_conv (s_number h1 hB (by omega) (by omega)) (fun r hr => ?_)
  have ec : num9 (by8 fb) lim pos = num9 (Bn b) lim pos := num9_congr (fun j hj => hb j (by omega))
  rw [ec] at hr
  rcases hr with ⟨v, p', e, rfl⟩ | ⟨e, q, hq, rfl⟩
  · have h3 := num9_pos e
    have h4 := sK_up (x := 0) ⟨h1, ⟨fb, hB, hb⟩, h2⟩ (p := p') (l := lim) (i := idp) (by omega) (by omega) (by omega)
    exact hret _ _ _ e h4.1 h4.2
  · exact hthr _ e (fr_up (by decide)) (sX_up h1 hq (by omega) (by omega))
theorem q_count (h : sK S b tot pos lim idp) (hret : ∀ n p' T, cnt (Bn b) lim pos = some (n, p') → fr [1] S T → sK T b tot p' lim idp → Q (.inl (some (.int (nI n))), T)) (hthr : ∀ T, cnt (Bn b) lim pos = none → fr [1] S T → sX T tot 2 pos → Q (.inr IAE, am_thrown T)) : ev X (d + 3) 50 [.ref 1] S Q := by
  obtain ⟨h1, ⟨fb, hB, hb⟩, h2⟩ := h
  refine ev_conv (s_count h1 hB (by omega) (by omega)) (fun r hr => ?_)
  have ec : cnt (by8 fb) lim pos = cnt (Bn b) lim pos := cnt_congr (fun j hj => hb j (by omega))
  rw [ec] at hr
  rcases hr with ⟨v, p', e, rfl⟩ | ⟨e, q, hq, rfl⟩
  · have h3 := cnt_lt e
    have h4 := sK_up (x := 0) ⟨h1, ⟨fb, hB, hb⟩, h2⟩ (p := p') (l := lim) (i := idp) (by omega) (by omega) (by omega)
    exact hret _ _ _ e h4.1 h4.2
  · exact hthr _ e (fr_up (by decide)) (sX_up h1 hq (by omega) (by omega))
theorem q_head {s e : Nat} (h : sK S b tot pos lim idp) (hs : s ≤ e) (he : e ≤ tot) (hret : ∀ len id p1 p2 T, hd (Bn b) s e = .inr (len, id, p1, p2) → fr [1] S T → sK T b tot p2 (s + len) p1 → Q (.inl (some (.int (nI id))), T)) (hthr : ∀ k pl T, hd (Bn b) s e = .inl (k, pl) → fr [1] S T → sX T tot k pl → Q (.inr IAE, am_thrown T)) : ev X (d + 4) 51 [.ref 1, .int (nI s), .int (nI e)] S Q := by
  obtain ⟨h1, ⟨fb, hB, hb⟩, h2⟩ := h
  refine ev_conv (s_head h1 hB hs (by omega) (by omega)) (fun r hr => ?_)
  have ec : hd (by8 fb) s e = hd (Bn b) s e := hd_congr (fun j hj => hb j (by omega))
  rw [ec] at hr
  rcases hr with ⟨len, id, p1, p2, e1, rfl⟩ | ⟨k, pl, e1, q, l, i, h3, h4, h5, rfl⟩
  · have h3 := hd_ok e1
    have h4 := sK_up (x := 0) ⟨h1, ⟨fb, hB, hb⟩, h2⟩ (p := p2) (l := s + len) (i := p1) (by omega) (by omega) (by omega)
    exact hret _ _ _ _ _ e1 h4.1 h4.2
  · exact hthr _ _ _ e1 (fr_up (by decide)) (sX_up h1 h3 h4 h5)
theorem q_fixedAt {p n : Nat} (h : sK S b tot pos lim idp) (hpn : p + n ≤ tot) (hret : Q (.inl (some (.long (fx (Bn b) p n))), S)) : ev X (d + 1) 46 [.ref 1, .int (nI p), .int (nI n)] S Q := by
  obtain ⟨h1, ⟨fb, hB, hb⟩, h2⟩ := h
  refine ev_conv (s_fixedAt h1 hB (by omega)) (fun r hr => ?_)
  rw [show fx (by8 fb) p n = fx (Bn b) p n from fx_congr (fun j h3 h4 => hb j (by omega))] at hr
  rw [hr]
  exact hret
theorem q_byteAt {p : Nat} (h : sK S b tot pos lim idp) (hp : p < tot) (hret : Q (.inl (some (.int (nI (b p)))), S)) : ev X (d + 1) 45 [.ref 1, .int (nI p)] S Q := by
  obtain ⟨h1, ⟨fb, hB, hb⟩, h2⟩ := h
  refine ev_conv (s_byteAt h1 hB (by omega)) (fun r hr => ?_)
  rw [show by8 fb p = nI (b p) from hb p hp] at hr
  rw [hr]
  exact hret
theorem q_fixed {n : Nat} (h : sK S b tot pos lim idp) (hn : n ≤ 960) (hret : ∀ T, pos + n ≤ lim → fr [1] S T → sK T b tot (pos + n) lim idp → Q (.inl (some (.long (fx (Bn b) pos n))), T)) (hthr : ∀ T, lim < pos + n → fr [1] S T → sX T tot 2 pos → Q (.inr IAE, am_thrown T)) : ev X (d + 2) 47 [.ref 1, .int (nI n)] S Q := by
  obtain ⟨h1, ⟨fb, hB, hb⟩, h2⟩ := h
  refine ev_conv (s_fixed h1 hB (by omega) (by omega) hn) (fun r hr => ?_)
  rcases hr with ⟨e, rfl⟩ | ⟨e, rfl⟩
  · rw [show fx (by8 fb) pos n = fx (Bn b) pos n from fx_congr (fun j h3 h4 => hb j (by omega))]
    have h4 := sK_up (x := 0) ⟨h1, ⟨fb, hB, hb⟩, h2⟩ (p := pos + n) (l := lim) (i := idp) (by omega) (by omega) (by omega)
    exact hret _ e h4.1 h4.2
  · exact hthr _ (by omega) (fr_up (by decide)) (sX_up h1 (by omega) (by omega) (by omega))
theorem q_oneByte (h : sK S b tot pos lim idp) (hret : ∀ T, pos < lim → fr [1] S T → sK T b tot (pos + 1) lim idp → Q (.inl (some (.int (nI (b pos)))), T)) (hthr : ∀ T, lim ≤ pos → fr [1] S T → sX T tot 2 pos → Q (.inr IAE, am_thrown T)) : ev X (d + 3) 48 [.ref 1] S Q := by
  obtain ⟨h1, ⟨fb, hB, hb⟩, h2⟩ := h
  refine ev_conv (s_oneByte h1 hB (by omega) (by omega)) (fun r hr => ?_)
  rcases hr with ⟨e, rfl⟩ | ⟨e, rfl⟩
  · rw [show by8 fb pos = nI (b pos) from hb pos (by omega)]
    have h4 := sK_up (x := 0) ⟨h1, ⟨fb, hB, hb⟩, h2⟩ (p := pos + 1) (l := lim) (i := idp) (by omega) (by omega) (by omega)
    exact hret _ e h4.1 h4.2
  · exact hthr _ (by omega) (fr_up (by decide)) (sX_up h1 (by omega) (by omega) (by omega))
theorem q_eventEnd (h : sK S b tot pos lim idp) (hret : lim ≤ pos → Q (.inl none, S)) (hthr : ∀ T, pos < lim → fr [1] S T → sX T tot 5 pos → Q (.inr IAE, am_thrown T)) : ev X (d + 2) 52 [.ref 1] S Q := by
  obtain ⟨h1, ⟨fb, hB, hb⟩, h2⟩ := h
  refine ev_conv (s_eventEnd h1 (by omega) (by omega)) (fun r hr => ?_)
  rcases hr with ⟨e, rfl⟩ | ⟨e, rfl⟩
  · exact hret e
  · exact hthr _ (by omega) (fr_up (by decide)) (sX_up h1 (by omega) (by omega) (by omega))
end READ
