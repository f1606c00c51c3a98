/-! Tally -/
/-- where a number goes: behind all that are not greater, from place k down -/
def insP (v : Int64) (zs : List Int64) : Nat → Nat
  | 0 => 0
  | k + 1 => if v < zs.getD k 0 then insP v zs k else k + 1
theorem insP_le (v : Int64) (zs : List Int64) : ∀ k, insP v zs k ≤ k := by
  intro k
  induction k with
  | zero => exact Nat.le_refl _
  | succ k ih => unfold insP; split <;> omega
def ins (v : Int64) (zs : List Int64) : List Int64 := zs.take (insP v zs zs.length) ++ v :: zs.drop (insP v zs zs.length)
theorem ins_len (v : Int64) (zs : List Int64) : (ins v zs).length = zs.length + 1 := by
  have h := insP_le v zs zs.length
  unfold ins
  rw [List.length_append, List.length_take, List.length_cons, List.length_drop]
  omega
def tD (g : Nat → Int64) (zs : List Int64) : Prop := ∀ i, i < zs.length → g i = zs.getD i 0
theorem ins_at {v : Int64} {zs : List Int64} {g : Nat → Int64} {k : Nat} (hk : k = insP v zs zs.length) (h1 : ∀ i, i < k → g i = zs.getD i 0) (h2 : ∀ i, k < i → i ≤ zs.length → g i = zs.getD (i - 1) 0) : tD (vp_updL g k v) (ins v zs) := by
  have hle := insP_le v zs zs.length
  rw [← hk] at hle
  intro i hi
  rw [ins_len] at hi
  unfold ins
  rw [← hk, List.getD_eq_getElem?_getD]
  rcases Nat.lt_trichotomy i k with h | h | h
  · rw [pk_uLn (by omega), List.getElem?_append_left (by rw [List.length_take]; omega), List.getElem?_take_of_lt h, ← List.getD_eq_getElem?_getD]
    exact h1 i h
  · subst h
    rw [pk_uLs, List.getElem?_append_right (by rw [List.length_take]; omega), List.length_take, Nat.min_eq_left hle, Nat.sub_self]
    rfl
  · rw [pk_uLn (by omega), List.getElem?_append_right (by rw [List.length_take]; omega), List.length_take, Nat.min_eq_left hle]
    obtain ⟨j, hj⟩ : ∃ j, i - k = j + 1 := ⟨i - k - 1, by omega⟩
    rw [hj, List.getElem?_cons_succ, List.getElem?_drop, ← List.getD_eq_getElem?_getD, show k + j = i - 1 by omega]
    exact h2 i h (by omega)
def taG (n : Int32) : Nat → Value := fun k => match k with
  | 0 => .int n
  | 1 => .ref 400
  | _ => .null
abbrev taC (n : Int32) : am_C := ob 6 2 (taG n)
theorem taG_0 {n z : Int32} : va_up (taG n) 0 (.int z) = taG z := by
  funext k
  match k with
  | 0 => rfl
  | 1 => rfl
  | k + 2 => simp [va_up, taG]
def smZ (zs : List Int64) : Int64 := zs.foldl (fun a x => a + x) 0
/-- whole parts and rests -/
def mnS (n : Int64) (zs : List Int64) : Int64 × Int64 := zs.foldl (fun a x => (a.1 + fdv x n, a.2 + fmd x n)) (0, 0)
def mnF (n w s : Int64) : Int64 := if (if w + s / n < 0 then n < 2 * (s - s / n * n) else n ≤ 2 * (s - s / n * n)) then w + s / n + 1 else w + s / n
def mnZ (zs : List Int64) : Int64 := mnF (lN zs.length) (mnS (lN zs.length) zs).1 (mnS (lN zs.length) zs).2
theorem nI_m1 (k : Nat) : nI (k + 1) + Int32.ofInt (-1) = nI k := by
  rw [show nI (k + 1) = nI k + 1 from (nI_1 k).symm]
  show nI k + 1 + (-1) = nI k
  grind
section TALLY
variable {X : Nat × (Nat → Int32)} {d : Nat} {Q : am_R → Prop} {zs : List Int64}
theorem ta_fin {S : am_S} {g : Nat → Int64} {v : Int64} {k : Nat} (h : am_get S 399 = some (taC (nI zs.length))) (hg : am_get S 400 = some (lA 60 g)) (hl : zs.length < 60) (hkl : k ≤ zs.length) (hk : k = insP v zs zs.length) (a1 : ∀ i, i < k → g i = zs.getD i 0) (a2 : ∀ i, k < i → i ≤ zs.length → g i = zs.getD (i - 1) 0) (hq : ∀ T g', fr [399, 400] S T → am_get T 399 = some (taC (nI (zs.length + 1))) → am_get T 400 = some (lA 60 g') → tD g' (ins v zs) → Q (.inl none, T)) : wp X d 55 52 [some (.ref 399), some (.long v), none, some (.int (nI k))] [] S Q := by
  refine wp_step rfl rfl ?_
  refine wp_getg rfl h (by decide) rfl ?_
  iterate 2 refine wp_step rfl rfl ?_
  refine wp_last rfl hg (am_in_nI (by omega) (by decide)) ?_
  rw [nI_clamp (by omega)]
  have h1 : am_get (am_upd S 400 (lA 60 (vp_updL g k v))) 399 = some (taC (nI zs.length)) := by rw [am_get_ne (by decide)]; exact h
  have hg1 : am_get (am_upd S 400 (lA 60 (vp_updL g k v))) 400 = some (lA 60 (vp_updL g k v)) := am_get_self hg
  have hf1 : fr [399, 400] S (am_upd S 400 (lA 60 (vp_updL g k v))) := fr_up (by simp)
  generalize am_upd S 400 (lA 60 (vp_updL g k v)) = S1 at h1 hg1 hf1 ⊢
  iterate 2 refine wp_step rfl rfl ?_
  refine wp_getg (v := (.int (nI zs.length))) rfl h1 (by decide) rfl ?_
  iterate 2 refine wp_step rfl rfl ?_
  rw [show nI zs.length + Int32.ofInt 1 = nI (zs.length + 1) from nI_add zs.length 1]
  refine wp_putg rfl h1 (by decide) rfl rfl ?_
  rw [taG_0]
  refine wp_vret rfl rfl (hq _ _ (fr_upd hf1 (by simp)) (am_get_self h1) (by rw [am_get_ne (by decide)]; exact hg1) (ins_at hk a1 a2))
theorem ta_loop {v : Int64} (hl : zs.length < 60) : ∀ (k : Nat) (g : Nat → Int64) (S : am_S), k ≤ zs.length → insP v zs zs.length = insP v zs k → (∀ i, i < k → g i = zs.getD i 0) → (∀ i, k < i → i ≤ zs.length → g i = zs.getD (i - 1) 0) → am_get S 399 = some (taC (nI zs.length)) → am_get S 400 = some (lA 60 g) → (∀ T g', fr [399, 400] S T → am_get T 399 = some (taC (nI (zs.length + 1))) → am_get T 400 = some (lA 60 g') → tD g' (ins v zs) → Q (.inl none, T)) → wp X d 55 15 [some (.ref 399), some (.long v), none, some (.int (nI k))] [] S Q := by
  intro k
  induction k with
  | zero =>
    intro g S hkl hk a1 a2 h hg hq
    refine wp_step rfl rfl ?_
    refine wp_if rfl (fun c0 => ?_) (fun c0 => ?_)
    · replace c0 := z_le_t (a := 0) (by omega) c0
      exact ta_fin h hg hl (Nat.zero_le _) (by rw [hk]; rfl) a1 a2 hq
    · replace c0 := z_le_f (a := 0) (by omega) c0
      omega
  | succ k ih =>
    intro g S hkl hk a1 a2 h hg hq
    refine wp_step rfl rfl ?_
    refine wp_if rfl (fun c0 => ?_) (fun c0 => ?_)
    · replace c0 := z_le_t (a := k + 1) (by omega) c0
      omega
    · replace c0 := z_le_f (a := k + 1) (by omega) c0
      refine wp_step rfl rfl ?_
      refine wp_getg rfl h (by decide) rfl ?_
      iterate 3 refine wp_step rfl rfl ?_
      rw [show nI (k + 1) - Int32.ofInt 1 = nI k from nI_pred k]
      refine wp_lald rfl (by decide) hg (am_in_nI (by omega) (by decide)) ?_
      rw [nI_clamp (by omega)]
      rw [a1 k (by omega)]
      iterate 2 refine wp_step rfl rfl ?_
      refine wp_if rfl (fun c1 => ?_) (fun c1 => ?_)
      · replace c1 := l_le_t c1
        refine ta_fin h hg hl (by omega) ?_ a1 a2 hq
        rw [show insP v zs (k + 1) = (if v < zs.getD k 0 then insP v zs k else k + 1) from rfl, if_neg (Int64.not_lt.mpr c1)] at hk
        exact hk.symm
      · replace c1 := l_le_f c1
        rw [show insP v zs (k + 1) = (if v < zs.getD k 0 then insP v zs k else k + 1) from rfl, if_pos (Int64.not_le.mp c1)] at hk
        refine wp_step rfl rfl ?_
        refine wp_getg rfl h (by decide) rfl ?_
        iterate 2 refine wp_step rfl rfl ?_
        refine wp_getg rfl h (by decide) rfl ?_
        iterate 3 refine wp_step rfl rfl ?_
        rw [show nI (k + 1) - Int32.ofInt 1 = nI k from nI_pred k]
        refine wp_lald rfl (by decide) hg (am_in_nI (by omega) (by decide)) ?_
        rw [nI_clamp (by omega)]
        rw [a1 k (by omega)]
        refine wp_last rfl hg (am_in_nI (by omega) (by decide)) ?_
        rw [nI_clamp (by omega)]
        iterate 2 refine wp_step rfl rfl ?_
        rw [nI_m1 k]
        have hf1 : fr [399, 400] S (am_upd S 400 (lA 60 (vp_updL g (k + 1) (zs.getD k 0)))) := fr_up (by simp)
        refine ih (vp_updL g (k + 1) (zs.getD k 0)) _ (by omega) hk (fun i hi => (pk_uLn (by omega)).trans (a1 i (by omega))) (fun i hi hi2 => ?_) (by rw [am_get_ne (by decide)]; exact h) (am_get_self hg) (fun T g' hf2 q1 q2 q3 => hq T g' (fr_trans hf1 hf2) q1 q2 q3)
        by_cases e9 : i = k + 1
        · subst e9; rw [pk_uLs, show k + 1 - 1 = k by omega]
        · rw [pk_uLn e9]; exact a2 i (by omega) hi2
theorem q_taAdd {S : am_S} {g : Nat → Int64} {v : Int64} (h : am_get S 399 = some (taC (nI zs.length))) (hg : am_get S 400 = some (lA 60 g)) (hD : tD g zs) (hl : zs.length < 60) (hq : ∀ T g', fr [399, 400] S T → am_get T 399 = some (taC (nI (zs.length + 1))) → am_get T 400 = some (lA 60 g') → tD g' (ins v zs) → Q (.inl none, T)) : ev X (d + 1) 55 [.ref 399, .long v] S Q := by
  refine ev_wp (L0 := [some (.ref 399), some (.long v), none, none]) (Nat.le_of_ble_eq_true rfl) rfl ?_
  refine wp_step rfl rfl ?_
  refine wp_getg rfl h (by decide) rfl ?_
  refine wp_step rfl rfl ?_
  refine wp_icmp rfl (fun c0 => ?_) (fun c0 => ?_)
  · replace c0 := n_ne_t (a := zs.length) (b := 60) (by omega) (by omega) c0
    refine wp_step rfl rfl ?_
    refine wp_getg (v := (.int (nI zs.length))) rfl h (by decide) rfl ?_
    refine wp_step rfl rfl ?_
    exact ta_loop hl zs.length g S (Nat.le_refl _) rfl hD (fun i h1 h2 => by omega) h hg hq
  · replace c0 := n_ne_f (a := zs.length) (b := 60) (by omega) (by omega) c0
    omega
theorem sm_loop {S : am_S} {g : Nat → Int64} (h : am_get S 399 = some (taC (nI zs.length))) (hg : am_get S 400 = some (lA 60 g)) (hD : tD g zs) (hl : zs.length ≤ 60) : ∀ (m i : Nat) (a : Int64), i + m = zs.length → Q (.inl (some (.long ((zs.drop i).foldl (fun a x => a + x) a))), S) → wp X d 56 4 [some (.ref 399), some (.long a), none, some (.int (nI i))] [] S Q := by
  intro m
  induction m with
  | zero =>
    intro i a hi hq
    have e9 : i = zs.length := by omega
    subst e9
    iterate 2 refine wp_step rfl rfl ?_
    refine wp_getg rfl h (by decide) rfl ?_
    refine wp_icmp rfl (fun c0 => ?_) (fun c0 => ?_)
    · replace c0 := n_ge_t (a := zs.length) (b := zs.length) (by omega) (by omega) c0
      refine wp_step rfl rfl ?_
      refine wp_lret rfl rfl (by rw [List.drop_length] at hq; exact hq)
    · replace c0 := n_ge_f (a := zs.length) (b := zs.length) (by omega) (by omega) c0
      omega
  | succ m ih =>
    intro i a hi hq
    iterate 2 refine wp_step rfl rfl ?_
    refine wp_getg rfl h (by decide) rfl ?_
    refine wp_icmp rfl (fun c0 => ?_) (fun c0 => ?_)
    · replace c0 := n_ge_t (a := i) (b := zs.length) (by omega) (by omega) c0
      omega
    · replace c0 := n_ge_f (a := i) (b := zs.length) (by omega) (by omega) c0
      iterate 2 refine wp_step rfl rfl ?_
      refine wp_getg rfl h (by decide) rfl ?_
      refine wp_step rfl rfl ?_
      refine wp_lald rfl (by decide) hg (am_in_nI (by omega) (by decide)) ?_
      rw [nI_clamp (by omega)]
      rw [hD i c0]
      iterate 4 refine wp_step rfl rfl ?_
      rw [show nI i + Int32.ofInt 1 = nI (i + 1) from nI_add i 1]
      refine ih (i + 1) (a + zs.getD i 0) (by omega) ?_
      rw [List.drop_eq_getElem_cons c0, List.foldl_cons] at hq
      rw [List.getD_eq_getElem?_getD, List.getElem?_eq_getElem c0]
      exact hq
theorem q_taSum {S : am_S} {g : Nat → Int64} (h : am_get S 399 = some (taC (nI zs.length))) (hg : am_get S 400 = some (lA 60 g)) (hD : tD g zs) (hl : zs.length ≤ 60) (hq : Q (.inl (some (.long (smZ zs))), S)) : ev X (d + 1) 56 [.ref 399] S Q := by
  refine ev_wp (L0 := [some (.ref 399), none, none, none]) (Nat.le_of_ble_eq_true rfl) rfl ?_
  iterate 4 refine wp_step rfl rfl ?_
  exact sm_loop h hg hD hl zs.length 0 0 (by omega) (by rw [List.drop_zero]; exact hq)
theorem q_maxI {S : am_S} {x y : Int32} (hq : Q (.inl (some (.int (if x < y then y else x))), S)) : ev X (d + 1) 164 [.int x, .int y] S Q := by
  refine ev_wp (L0 := [some (.int x), some (.int y)]) (Nat.le_of_ble_eq_true rfl) rfl ?_
  iterate 2 refine wp_step rfl rfl ?_
  refine wp_icmp rfl (fun c0 => ?_) (fun c0 => ?_)
  · replace c0 := i_lt_t c0
    refine wp_step rfl rfl ?_
    refine wp_iret rfl rfl rfl (by rw [if_pos c0] at hq; exact hq)
  · replace c0 := i_lt_f c0
    iterate 2 refine wp_step rfl rfl ?_
    refine wp_iret rfl rfl rfl (by rw [if_neg c0] at hq; exact hq)
theorem q_inOrder {S : am_S} {g : Nat → Int64} {x : Int32} {k : Nat} (h : am_get S 399 = some (taC (nI zs.length))) (hg : am_get S 400 = some (lA 60 g)) (hD : tD g zs) (hl : zs.length ≤ 60) (hx : (if x < 0 then 0 else x) = nI k) (hk : k < zs.length) (hq : Q (.inl (some (.long (zs.getD k 0))), S)) : ev X (d + 2) 57 [.ref 399, .int x] S Q := by
  refine ev_wp (L0 := [some (.ref 399), some (.int x)]) (Nat.le_of_ble_eq_true rfl) rfl ?_
  refine wp_step rfl rfl ?_
  refine wp_getg rfl h (by decide) rfl ?_
  iterate 2 refine wp_step rfl rfl ?_
  refine wp_c0 rfl rfl (by decide) rfl (rfl) rfl (q_maxI ?_)
  rw [show (if x < Int32.ofInt 0 then Int32.ofInt 0 else x) = nI k from hx]
  refine wp_lald rfl (by decide) hg (am_in_nI (by omega) (by decide)) ?_
  rw [nI_clamp (by omega)]
  rw [hD k hk]
  refine wp_lret rfl rfl hq
set_option maxHeartbeats 1000000 in
theorem mn_loop {S : am_S} {g : Nat → Int64} (h : am_get S 399 = some (taC (nI zs.length))) (hg : am_get S 400 = some (lA 60 g)) (hD : tD g zs) (hl : zs.length ≤ 60) (hn0 : 0 < lN zs.length) : ∀ (m i : Nat) (a c : Int64), i + m = zs.length → wp X (d + 1) 58 68 [some (.ref 399), some (.long (lN zs.length)), none, some (.long ((zs.drop i).foldl (fun a x => (a.1 + fdv x (lN zs.length), a.2 + fmd x (lN zs.length))) (a, c)).1), none, some (.long ((zs.drop i).foldl (fun a x => (a.1 + fdv x (lN zs.length), a.2 + fmd x (lN zs.length))) (a, c)).2), none, some (.int (nI zs.length))] [] S Q → wp X (d + 1) 58 23 [some (.ref 399), some (.long (lN zs.length)), none, some (.long a), none, some (.long c), none, some (.int (nI i))] [] S Q := by
  intro m
  induction m with
  | zero =>
    intro i a c hi hq
    have e9 : i = zs.length := by omega
    subst e9
    iterate 2 refine wp_step rfl rfl ?_
    refine wp_getg rfl h (by decide) rfl ?_
    refine wp_icmp rfl (fun c0 => ?_) (fun c0 => ?_)
    · replace c0 := n_ge_t (a := zs.length) (b := zs.length) (by omega) (by omega) c0
      rw [List.drop_length] at hq
      exact hq
    · replace c0 := n_ge_f (a := zs.length) (b := zs.length) (by omega) (by omega) c0
      omega
  | succ m ih =>
    intro i a c hi hq
    iterate 2 refine wp_step rfl rfl ?_
    refine wp_getg rfl h (by decide) rfl ?_
    refine wp_icmp rfl (fun c0 => ?_) (fun c0 => ?_)
    · replace c0 := n_ge_t (a := i) (b := zs.length) (by omega) (by omega) c0
      omega
    · replace c0 := n_ge_f (a := i) (b := zs.length) (by omega) (by omega) c0
      iterate 2 refine wp_step rfl rfl ?_
      refine wp_getg rfl h (by decide) rfl ?_
      refine wp_step rfl rfl ?_
      refine wp_lald rfl (by decide) hg (am_in_nI (by omega) (by decide)) ?_
      rw [nI_clamp (by omega)]
      rw [hD i c0]
      refine wp_step rfl rfl ?_
      refine wp_c0 rfl rfl (by decide) rfl (rfl) rfl (q_floorDiv hn0 ?_)
      iterate 2 refine wp_step rfl rfl ?_
      show wp X (d + 1) 58 46 [some (.ref 399), some (.long (lN zs.length)), none, some (.long (a + fdv (zs.getD i 0) (lN zs.length))), none, some (.long c), none, some (.int (nI i))] [] S Q
      iterate 2 refine wp_step rfl rfl ?_
      refine wp_getg rfl h (by decide) rfl ?_
      refine wp_step rfl rfl ?_
      refine wp_lald rfl (by decide) hg (am_in_nI (by omega) (by decide)) ?_
      rw [nI_clamp (by omega)]
      rw [hD i c0]
      refine wp_step rfl rfl ?_
      refine wp_c0 rfl rfl (by decide) rfl (rfl) rfl (q_floorMod hn0 ?_)
      iterate 4 refine wp_step rfl rfl ?_
      rw [show nI i + Int32.ofInt 1 = nI (i + 1) from nI_add i 1]
      refine ih (i + 1) (a + fdv (zs.getD i 0) (lN zs.length)) (c + fmd (zs.getD i 0) (lN zs.length)) (by omega) ?_
      rw [List.drop_eq_getElem_cons c0, List.foldl_cons] at hq
      rw [show zs.getD i 0 = zs[i] from by rw [List.getD_eq_getElem?_getD, List.getElem?_eq_getElem c0]; rfl]
      exact hq
set_option maxHeartbeats 1000000 in
theorem q_taMean {S : am_S} {g : Nat → Int64} (h : am_get S 399 = some (taC (nI zs.length))) (hg : am_get S 400 = some (lA 60 g)) (hD : tD g zs) (hl : zs.length ≤ 60) (hz : zs.length ≠ 0) (hq : Q (.inl (some (.long (mnZ zs))), S)) : ev X (d + 2) 58 [.ref 399] S Q := by
  refine ev_wp (L0 := [some (.ref 399), none, none, none, none, none, none, none]) (Nat.le_of_ble_eq_true rfl) rfl ?_
  refine wp_step rfl rfl ?_
  refine wp_getg rfl h (by decide) rfl ?_
  refine wp_if rfl (fun c0 => ?_) (fun c0 => ?_)
  · replace c0 := z_ne_t (a := zs.length) (by omega) c0
    have hn0 : 0 < lN zs.length := lN_pos hz (by omega)
    have hn1 : lN zs.length ≠ 0 := fun e9 => by rw [e9] at hn0; exact absurd hn0 (by decide)
    refine wp_step rfl rfl ?_
    refine wp_getg (v := (.int (nI zs.length))) rfl h (by decide) rfl ?_
    refine wp_step rfl rfl ?_
    rw [nI_l (by omega)]
    iterate 7 refine wp_step rfl rfl ?_
    show wp X (d + 1) 58 23 [some (.ref 399), some (.long (lN zs.length)), none, some (.long 0), none, some (.long 0), none, some (.int (nI 0))] [] S Q
    refine mn_loop h hg hD hl hn0 zs.length 0 0 0 (by omega) ?_
    rw [List.drop_zero]
    show wp X (d + 1) 58 68 [some (.ref 399), some (.long (lN zs.length)), none, some (.long (mnS (lN zs.length) zs).1), none, some (.long (mnS (lN zs.length) zs).2), none, some (.int (nI zs.length))] [] S Q
    unfold mnZ at hq
    generalize (mnS (lN zs.length) zs).1 = wh at hq ⊢
    generalize (mnS (lN zs.length) zs).2 = rs at hq ⊢
    iterate 3 refine wp_step rfl rfl ?_
    refine wp_ldiv rfl (hn1) ?_
    iterate 4 refine wp_step rfl rfl ?_
    refine wp_lrem rfl (hn1) ?_
    refine wp_step rfl rfl ?_
    show wp X (d + 1) 58 81 [some (.ref 399), some (.long (lN zs.length)), none, some (.long (wh + rs / lN zs.length)), none, some (.long (rs - rs / lN zs.length * lN zs.length)), none, some (.int (nI zs.length))] [] S Q
    have K1 : (if wh + rs / lN zs.length < 0 then lN zs.length < 2 * (rs - rs / lN zs.length * lN zs.length) else lN zs.length ≤ 2 * (rs - rs / lN zs.length * lN zs.length)) → wp X (d + 1) 58 122 [some (.ref 399), some (.long (lN zs.length)), none, some (.long (wh + rs / lN zs.length)), none, some (.long (rs - rs / lN zs.length * lN zs.length)), none, some (.int (nI zs.length))] [.int 1] S Q := by
      intro hu
      refine wp_step rfl rfl ?_
      show wp X (d + 1) 58 124 [some (.ref 399), some (.long (lN zs.length)), none, some (.long (wh + rs / lN zs.length)), none, some (.long (rs - rs / lN zs.length * lN zs.length)), none, some (.int 1)] [] S Q
      refine wp_step rfl rfl ?_
      refine wp_if_f rfl rfl ?_
      iterate 4 refine wp_step rfl rfl ?_
      refine wp_lret rfl rfl (by unfold mnF at hq; rw [if_pos hu] at hq; exact hq)
    have K0 : ¬ (if wh + rs / lN zs.length < 0 then lN zs.length < 2 * (rs - rs / lN zs.length * lN zs.length) else lN zs.length ≤ 2 * (rs - rs / lN zs.length * lN zs.length)) → wp X (d + 1) 58 122 [some (.ref 399), some (.long (lN zs.length)), none, some (.long (wh + rs / lN zs.length)), none, some (.long (rs - rs / lN zs.length * lN zs.length)), none, some (.int (nI zs.length))] [.int 0] S Q := by
      intro hu
      refine wp_step rfl rfl ?_
      show wp X (d + 1) 58 124 [some (.ref 399), some (.long (lN zs.length)), none, some (.long (wh + rs / lN zs.length)), none, some (.long (rs - rs / lN zs.length * lN zs.length)), none, some (.int 0)] [] S Q
      refine wp_step rfl rfl ?_
      refine wp_if_t rfl rfl ?_
      refine wp_step rfl rfl ?_
      refine wp_lret rfl rfl (by unfold mnF at hq; rw [if_neg hu] at hq; exact hq)
    iterate 3 refine wp_step rfl rfl ?_
    refine wp_if rfl (fun c1 => ?_) (fun c1 => ?_)
    · replace c1 := l_ge_t c1
      iterate 5 refine wp_step rfl rfl ?_
      refine wp_if rfl (fun c2 => ?_) (fun c2 => ?_)
      · replace c2 := l_lt_t c2
        refine wp_step rfl rfl ?_
        exact K0 (by rw [if_neg (show ¬ wh + rs / lN zs.length < 0 from Int64.not_lt.mpr c1)]; exact Int64.not_le.mpr c2)
      · replace c2 := l_lt_f c2
        iterate 2 refine wp_step rfl rfl ?_
        exact K1 (by rw [if_neg (show ¬ wh + rs / lN zs.length < 0 from Int64.not_lt.mpr c1)]; exact Int64.not_lt.mp c2)
    · replace c1 := l_ge_f c1
      iterate 5 refine wp_step rfl rfl ?_
      refine wp_if rfl (fun c2 => ?_) (fun c2 => ?_)
      · replace c2 := l_le_t c2
        iterate 2 refine wp_step rfl rfl ?_
        exact K0 (by rw [if_pos (show wh + rs / lN zs.length < 0 from Int64.not_le.mp c1)]; exact Int64.not_lt.mpr c2)
      · replace c2 := l_le_f c2
        iterate 2 refine wp_step rfl rfl ?_
        exact K1 (by rw [if_pos (show wh + rs / lN zs.length < 0 from Int64.not_le.mp c1)]; exact Int64.not_le.mp c2)
  · replace c0 := z_ne_f (a := zs.length) (by omega) c0
    exact absurd c0 hz
end TALLY
