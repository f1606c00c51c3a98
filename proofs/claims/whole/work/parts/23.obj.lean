/-! objects as functions from field numbers to values -/
def ob (ci n : Nat) (g : Nat → Value) : am_C := .inr (ci, (List.range n).map g)
theorem ob_at {ci n b : Nat} {g : Nat → Value} (hb : b < n) : ((List.range n).map g)[b]? = some (g b) := by simp [hb]
theorem ob_set {n b : Nat} {g : Nat → Value} {v : Value} : ((List.range n).map g).set b v = (List.range n).map (va_up g b v) := by
  apply List.ext_getElem?
  intro j
  rw [List.getElem?_set]
  by_cases hj : j < n
  · by_cases e : b = j
    · subst e; simp [hj, va_up]
    · have e2 : ¬ j = b := fun h => e h.symm
      simp [e, hj, va_up, e2]
  · by_cases e : b = j
    · subst e; simp [hj]
    · simp [e, hj]
theorem am_upd_upd {S : am_S} {a : Nat} {x y : am_C} : am_upd (am_upd S a x) a y = am_upd S a y := by
  unfold am_upd
  dsimp only
  congr 1
  congr 1
  funext k
  split <;> rfl
theorem am_upd_comm {S : am_S} {a b : Nat} {x y : am_C} (h : a ≠ b) : am_upd (am_upd S a x) b y = am_upd (am_upd S b y) a x := by
  unfold am_upd
  dsimp only
  congr 1
  congr 1
  funext k
  by_cases h1 : k = a
  · have h2 : ¬ k = b := fun h3 => h (h1.symm.trans h3)
    simp [h1, h]
  · simp [h1]
theorem am_upd_same {S : am_S} {a : Nat} {x : am_C} (h : am_get S a = some x) : am_upd S a x = S := by
  obtain ⟨h1, h2⟩ := am_get_inv h
  obtain ⟨n, f, c, s⟩ := S
  unfold am_upd
  dsimp only at h2 ⊢
  congr 1
  congr 1
  funext k
  split
  · rename_i hk; rw [hk]; exact h2.symm
  · rfl
section WPO
variable {X : Nat × (Nat → Int32)} {d k pc : Nat} {L : am_L} {st : List Value} {S : am_S} {Q : am_R → Prop}
theorem wp_getg {x len a b w o n : Nat} {cst : Int} {g : Nat → Value} {v : Value} (hi : am_P k pc = some (.getfield x, len, a, b, w, cst)) (hg : am_get S o = some (ob a n g)) (hb : b < n) (hv : g b = v) (h : wp X d k (pc + len) L (v :: st) S Q) : wp X d k pc L (.ref o :: st) S Q :=
  wp_getf hi hg (by rw [ob_at (ci := 0) hb, hv]) h
theorem wp_putg {x len a b w o n : Nat} {cst : Int} {g : Nat → Value} {v : Value} (hi : am_P k pc = some (.putfield x, len, a, b, w, cst)) (hg : am_get S o = some (ob a n g)) (hb : b < n) (hn : narrow (am_fty a b) v = v) (hf : fits (am_fty a b) v = true)
    (h : wp X d k (pc + len) L st (am_upd S o (ob a n (va_up g b v))) Q) : wp X d k pc L (v :: .ref o :: st) S Q := by
  refine wp_putf hi hg (by simp [hb]) hn hf ?_
  rw [ob_set]
  exact h
end WPO
theorem am_in_nI {p n : Nat} (h : p < n) (hn : n < 2 ^ 31) : am_in (nI p) n = true := by
  unfold am_in
  exact decide_eq_true (nI_in h hn)
/-- Source.fail: it throws, and tells the fault -/
theorem c44 (X : Nat × (Nat → Int32)) (d : Nat) {S : am_S} {o : Nat} {g : Nat → Value} (a b : Int32) (h : am_get S o = some (ob 5 8 g)) :
    ev X (d + 1) 44 [.ref o, .int a, .int b] S (fun r => r = (.inr "java/lang/IllegalArgumentException", am_thrown (am_upd S o (ob 5 8 (va_up (va_up g 6 (.int a)) 7 (.int b)))))) := by
  refine ev_wp (L0 := [some (.ref o), some (.int a), some (.int b)]) (Nat.le_of_ble_eq_true rfl) rfl ?_
  refine wp_step rfl rfl ?_
  refine wp_step rfl rfl ?_
  refine wp_putg rfl h (by decide) rfl rfl ?_
  refine wp_step rfl rfl ?_
  refine wp_step rfl rfl ?_
  refine wp_putg rfl (am_get_self h) (by decide) rfl rfl ?_
  rw [am_upd_upd]
  exact wp_thr rfl (by decide) rfl
/-- a compressed number: n more bytes at most, the k-th one next, at p, v so far -/
def cnum (B : Nat → Int32) (lim : Nat) : Nat → Nat → Nat → Int64 → Option (Int64 × Nat)
  | 0, _, _, _ => none
  | n + 1, k, p, v => if lim ≤ p then none else if 8 ≤ k ∨ B p < 128 then some (v ||| ((B p).toInt64 <<< ((nI (7 * k)).toInt64 &&& 63)), p + 1) else cnum B lim n (k + 1) (p + 1) (v ||| ((B p &&& 127).toInt64 <<< ((nI (7 * k)).toInt64 &&& 63)))
theorem nI_7 (k : Nat) : nI (7 * k) + 7 = nI (7 * (k + 1)) := by
  rw [show (7 : Int32) = nI 7 from rfl, nI_add]
  congr 1
theorem recv_ok {x len a b w o ci n : Nat} {cst : Int} {g : Nat → Value} {S : am_S} {As : List Value} (h : am_get S o = some (ob ci n g)) (hc : (vwCl[ci]?).map (fun q => q.1) = some (am_M1 a).1.cls) : am_recv am_M1 (.invokevirtual x, len, a, b, w, cst) (.ref o :: As) S = true := by
  simp only [am_recv, h, ob]
  exact decide_eq_true hc
theorem c2_lt {a b : Nat} (ha : a < 2 ^ 31) (hb : b < 2 ^ 31) {t : Bool} (h : am_c2 .lt (nI a) (nI b) = t) : (a < b ↔ t = true) := by
  unfold am_c2 at h
  rw [← h, decide_eq_true_iff, nI_ltI ha hb]
theorem va_up_up {α : Type} (f : Nat → α) (k : Nat) (v w : α) : va_up (va_up f k v) k w = va_up f k w := bx_uu f k v w
theorem c2_eq {a b : Nat} (ha : a < 2 ^ 31) (hb : b < 2 ^ 31) {t : Bool} (h : am_c2 .eq (nI a) (nI b) = t) : (a = b ↔ t = true) := by
  unfold am_c2 at h
  rw [← h, decide_eq_true_iff, nI_eq ha hb]
theorem va_up_id {g : Nat → Value} {k : Nat} {v : Value} (h : g k = v) : va_up g k v = g := by
  funext j
  unfold va_up
  split
  · rename_i e; rw [e, h]
  · rfl
set_option maxHeartbeats 1000000 in
/-- Source.number: one turn of its loop -/
theorem number_turn (X : Nat × (Nat → Int32)) (d : Nat) {so bo lim : Nat} {fb : Nat → Int32} {st : Int32} {Q : am_R → Prop} (hso : bo ≠ so) (hlim : lim ≤ 960) (hbo : bo < 1000000) {n k p : Nat} {v : Int64} {x5 : Option Value} {S : am_S} {g : Nat → Value}
    (hk : k + n = 8) (hS : am_get S so = some (ob 5 8 g)) (hB : am_get S bo = some (.inl (2, 960, .inl fb))) (g0 : g 0 = .ref bo) (g3 : g 3 = .int (nI p)) (g4 : g 4 = .int (nI lim)) (hp : p ≤ 960)
    (hret : ∀ v' p', cnum (fun j => fb j &&& 255) lim (n + 1) k p v = some (v', p') → Q (.inl (some (.long v')), am_upd S so (ob 5 8 (va_up g 3 (.int (nI p'))))))
    (hthr : cnum (fun j => fb j &&& 255) lim (n + 1) k p v = none → ∀ q : Nat, q ≤ 960 → Q (.inr "java/lang/IllegalArgumentException", am_thrown (am_upd S so (ob 5 8 (va_up (va_up (va_up g 3 (.int (nI q))) 6 (.int 2)) 7 (.int st))))))
    (hnext : k < 8 → p < lim → ¬ (fb p &&& 255) < 128 → wp X (d + 1) 49 10 [some (.ref so), some (.int st), some (.long (v ||| ((fb p &&& 255 &&& 127).toInt64 <<< ((nI (7 * k)).toInt64 &&& 63)))), none, some (.int (nI (7 * (k + 1)))), some (.int (fb p &&& 255))] [] (am_upd S so (ob 5 8 (va_up g 3 (.int (nI (p + 1)))))) Q) :
    wp X (d + 1) 49 10 [some (.ref so), some (.int st), some (.long v), none, some (.int (nI (7 * k))), x5] [] S Q := by
  refine wp_step rfl rfl ?_
  refine wp_step rfl rfl ?_
  refine wp_icmp_f rfl ?_ ?_
  · show am_c2 .gt (nI (7 * k)) (nI 56) = false
    exact decide_eq_false (nI_nlt (by omega) (by decide))
  refine wp_step rfl rfl ?_
  refine wp_getg rfl hS (by decide) g3 ?_
  refine wp_step rfl rfl ?_
  refine wp_getg rfl hS (by decide) g4 ?_
  refine wp_icmp rfl (fun c1 => ?_) (fun c1 => ?_)
  · have hpl : p < lim := (c2_lt (by omega) (by omega) c1).mpr rfl
    refine wp_step rfl rfl ?_
    refine wp_getg rfl hS (by decide) g0 ?_
    refine wp_step rfl rfl ?_
    refine wp_getg rfl hS (by decide) g3 ?_
    refine wp_ald rfl (Or.inr (Or.inl ⟨rfl, rfl⟩)) hbo hB (am_in_nI (by omega) (by decide)) ?_
    rw [nI_clamp (by omega)]
    refine wp_step rfl rfl ?_
    refine wp_step rfl rfl ?_
    refine wp_step rfl rfl ?_
    refine wp_step rfl rfl ?_
    refine wp_step rfl rfl ?_
    refine wp_getg rfl hS (by decide) g3 ?_
    refine wp_step rfl rfl ?_
    refine wp_step rfl rfl ?_
    refine wp_putg rfl hS (by decide) rfl rfl ?_
    rw [show nI p + Int32.ofInt 1 = nI (p + 1) from nI_1 p]
    have done : (8 ≤ k ∨ (fb p &&& 255) < 128) → wp X (d + 1) 49 74 [some (.ref so), some (.int st), some (.long v), none, some (.int (nI (7 * k))), some (.int (fb p &&& 255))] [] (am_upd S so (ob 5 8 (va_up g 3 (.int (nI (p + 1)))))) Q := by
      intro hd
      refine wp_step rfl rfl ?_
      refine wp_step rfl rfl ?_
      refine wp_step rfl rfl ?_
      refine wp_step rfl rfl ?_
      refine wp_step rfl rfl ?_
      refine wp_step rfl rfl ?_
      refine wp_lret rfl rfl ?_
      exact hret _ _ (by simp only [cnum]; rw [if_neg (by omega), if_pos hd])
    refine wp_step rfl rfl ?_
    refine wp_step rfl rfl ?_
    refine wp_icmp rfl (fun c2 => ?_) (fun c2 => ?_)
    · exact done (Or.inl (by have := (c2_eq (by omega) (by decide) (show am_c2 .eq (nI (7 * k)) (nI 56) = true from c2)).mpr rfl; omega))
    · have hk8 : k < 8 := by
        rcases Nat.lt_or_ge k 8 with h | h
        · exact h
        · have h9 := (c2_eq (by omega) (by decide) (show am_c2 .eq (nI (7 * k)) (nI 56) = false from c2)).mp (by omega)
          cases h9
      refine wp_step rfl rfl ?_
      refine wp_step rfl rfl ?_
      refine wp_icmp rfl (fun c3 => ?_) (fun c3 => ?_)
      · have hge : ¬ (fb p &&& 255) < 128 := by
          have h9 : (128 : Int32) ≤ (fb p &&& 255) := of_decide_eq_true c3
          exact Int32.not_lt.mpr h9
        refine wp_step rfl rfl ?_
        refine wp_step rfl rfl ?_
        refine wp_step rfl rfl ?_
        refine wp_step rfl rfl ?_
        refine wp_step rfl rfl ?_
        refine wp_step rfl rfl ?_
        refine wp_step rfl rfl ?_
        refine wp_step rfl rfl ?_
        refine wp_step rfl rfl ?_
        refine wp_step rfl rfl ?_
        refine wp_step rfl rfl ?_
        rw [show nI (7 * k) + Int32.ofInt 7 = nI (7 * (k + 1)) from nI_7 k]
        exact hnext hk8 hpl hge
      · refine done (Or.inr ?_)
        have h9 : ¬ (128 : Int32) ≤ (fb p &&& 255) := of_decide_eq_false c3
        exact Int32.not_le.mp h9
  · refine wp_step rfl rfl ?_
    refine wp_step rfl rfl ?_
    refine wp_step rfl rfl ?_
    refine wp_call rfl rfl (by decide) rfl (recv_ok hS rfl) (c44 X d _ _ hS) ?_ ?_
    · intro v T h; cases h
    · intro E T h
      cases h
      refine Or.inl ⟨rfl, ?_⟩
      have hpl : ¬ p < lim := fun h9 => by have h8 := (c2_lt (by omega) (by omega) c1).mp h9; cases h8
      have h9 := hthr (by simp only [cnum]; rw [if_pos (by omega)]) p hp
      rw [va_up_id g3] at h9
      exact h9
/-- Source.number's loop -/
theorem number_loop (X : Nat × (Nat → Int32)) (d : Nat) {so bo lim : Nat} {fb : Nat → Int32} {st : Int32} {Q : am_R → Prop} (hso : bo ≠ so) (hlim : lim ≤ 960) (hbo : bo < 1000000) :
    ∀ (n k p : Nat) (v : Int64) (x5 : Option Value) (S : am_S) (g : Nat → Value), k + n = 8 → am_get S so = some (ob 5 8 g) → am_get S bo = some (.inl (2, 960, .inl fb)) → g 0 = .ref bo → g 3 = .int (nI p) → g 4 = .int (nI lim) → p ≤ 960 →
      (∀ v' p', cnum (fun j => fb j &&& 255) lim (n + 1) k p v = some (v', p') → Q (.inl (some (.long v')), am_upd S so (ob 5 8 (va_up g 3 (.int (nI p')))))) →
      (cnum (fun j => fb j &&& 255) lim (n + 1) k p v = none → ∀ q : Nat, q ≤ 960 → Q (.inr "java/lang/IllegalArgumentException", am_thrown (am_upd S so (ob 5 8 (va_up (va_up (va_up g 3 (.int (nI q))) 6 (.int 2)) 7 (.int st)))))) →
      wp X (d + 1) 49 10 [some (.ref so), some (.int st), some (.long v), none, some (.int (nI (7 * k))), x5] [] S Q := by
  intro n
  induction n with
  | zero =>
    intro k p v x5 S g hk hS hB g0 g3 g4 hp hret hthr
    exact number_turn X d hso hlim hbo hk hS hB g0 g3 g4 hp hret hthr (fun h => absurd h (by omega))
  | succ n ih =>
    intro k p v x5 S g hk hS hB g0 g3 g4 hp hret hthr
    refine number_turn X d hso hlim hbo hk hS hB g0 g3 g4 hp hret hthr (fun h8 hpl hge => ?_)
    have hc : cnum (fun j => fb j &&& 255) lim (n + 1 + 1) k p v = cnum (fun j => fb j &&& 255) lim (n + 1) (k + 1) (p + 1) (v ||| ((fb p &&& 255 &&& 127).toInt64 <<< ((nI (7 * k)).toInt64 &&& 63))) := by
      rw [cnum]
      rw [if_neg (by omega), if_neg (fun h9 => h9.elim (fun h10 => absurd h10 (by omega)) hge)]
    refine ih (k + 1) (p + 1) _ _ _ (va_up g 3 (.int (nI (p + 1)))) (by omega) (am_get_self hS) (by rw [am_get_ne hso]; exact hB) g0 rfl g4 (by omega) (fun v' p' h9 => ?_) (fun h9 q hq => ?_)
    · have h10 := hret v' p' (by rw [hc]; exact h9)
      rw [am_upd_upd, va_up_up]
      exact h10
    · have h10 := hthr (by rw [hc]; exact h9) q hq
      rw [am_upd_upd, va_up_up]
      exact h10
