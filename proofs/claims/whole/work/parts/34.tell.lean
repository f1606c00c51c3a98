/-! A FIELD AND A TYPE, as they are told -/
/-- a fault, or what is read and where it ends -/
def rdF1 (b : Nat → Nat) (lim : Nat) (fs : List jFd) (p : Nat) : (Int32 × Nat) ⊕ (jFd × Nat) :=
  if lim ≤ p then .inl (2, p) else if b p < 97 ∨ 122 < b p ∨ fdx fs (b p) ≠ none then .inl (4, p) else (match cnt (Bn b) lim (p + 1) with
    | none => .inl (2, p + 1)
    | some (ty, p1) => if lim ≤ p1 then .inl (2, p1) else if 3 < b p1 then .inl (4, p1) else .inr ((b p, ty, b p1), p1 + 1))
def rdFs (b : Nat → Nat) (lim : Nat) : Nat → List jFd → Nat → (Int32 × Nat) ⊕ (List jFd × Nat)
  | 0, fs, p => .inr (fs, p)
  | n + 1, fs, p => (match rdF1 b lim fs p with
    | .inl e => .inl e
    | .inr (y, p') => rdFs b lim n (fs ++ [y]) p')
def rdT1 (b : Nat → Nat) (lim : Nat) (id p : Nat) : (Int32 × Nat) ⊕ (jTy × Nat) :=
  if lim ≤ p then .inl (2, p) else if b p < 65 ∨ 90 < b p then .inl (4, p) else if lim ≤ p + 1 then .inl (2, p + 1) else if 1 < b (p + 1) then .inl (4, p + 1) else (match cnt (Bn b) lim (p + 2) with
    | none => .inl (2, p + 2)
    | some (n, p1) => if 8 < n then .inl (4, p + 2) else (match rdFs b lim n [] p1 with
      | .inl e => .inl e
      | .inr (fs, p') => .inr ((id, b p, b (p + 1), fs), p')))
/-- the class's Type at o with these fields -/
def tyE (S : am_S) (o : Nat) (id nm kd : Int32) (fs : List jFd) : Prop := am_get S o = some (tyC o id nm kd (nI fs.length)) ∧ ∃ f1 f2 f3, am_get S (o + 1) = some (iA 8 f1) ∧ am_get S (o + 2) = some (iA 8 f2) ∧ am_get S (o + 3) = some (iA 8 f3) ∧ fdE fs f1 f2 f3
theorem tyE_fr {js : List Nat} {S T : am_S} {o : Nat} {id nm kd : Int32} {fs : List jFd} (h : tyE S o id nm kd fs) (hf : fr js S T) (hj : o ∉ js ∧ o + 1 ∉ js ∧ o + 2 ∉ js ∧ o + 3 ∉ js) : tyE T o id nm kd fs := by
  obtain ⟨h0, f1, f2, f3, h1, h2, h3, h4⟩ := h
  exact ⟨by rw [fr_get hf hj.1]; exact h0, f1, f2, f3, by rw [fr_get hf hj.2.1]; exact h1, by rw [fr_get hf hj.2.2.1]; exact h2, by rw [fr_get hf hj.2.2.2]; exact h3, h4⟩
theorem fdE_add {fs : List jFd} {f1 f2 f3 : Nat → Int32} (h : fdE fs f1 f2 f3) (y : jFd) : fdE (fs ++ [y]) (upd f1 fs.length (nI y.1)) (upd f2 fs.length (nI y.2.1)) (upd f3 fs.length (nI y.2.2)) := by
  intro i z hz
  rcases Nat.lt_or_ge i fs.length with hi | hi
  · rw [List.getElem?_append_left hi] at hz
    have h1 := h i z hz
    rw [pk_un (by omega), pk_un (by omega), pk_un (by omega)]
    exact h1
  · rw [List.getElem?_append_right hi] at hz
    have e : i = fs.length := by
      rcases Nat.eq_or_lt_of_le hi with e | e
      · exact e.symm
      · rw [List.getElem?_eq_none (by simp; omega)] at hz; cases hz
    subst e
    simp at hz
    subst hz
    rw [pk_us, pk_us, pk_us]
    exact ⟨rfl, rfl, rfl⟩
theorem n_and4 : ∀ n : Fin 256, (am_c1 .eq (nI n.val &&& (Int8.ofInt (-4)).toInt32) = true ↔ n.val ≤ 3) := by decide +kernel
theorem n_and4' {n : Nat} (hn : n < 256) : (am_c1 .eq (nI n &&& (Int8.ofInt (-4)).toInt32) = true ↔ n ≤ 3) := n_and4 ⟨n, hn⟩
theorem fdx_lt {fs : List jFd} {w i : Nat} (h : fdx fs w = some i) : i < fs.length := by
  have h1 := fsti_some h
  omega
theorem mem_at {α : Type} {l : List α} {i : Nat} {x : α} (h : l[i]? = some x) : x ∈ l := List.mem_of_getElem? h
theorem rdF1_ok {b : Nat → Nat} {lim p p' : Nat} {fs : List jFd} {y : jFd} (h : rdF1 b lim fs p = .inr (y, p')) : fdOK y ∧ p < p' ∧ p' ≤ lim ∧ fdx fs y.1 = none := by
  unfold rdF1 at h
  split at h
  · cases h
  · split at h
    · cases h
    · rename_i h1 h2
      split at h
      · cases h
      · rename_i ty p1 hc
        have h3 := cnt_lt hc
        split at h
        · cases h
        · split at h
          · cases h
          · cases h
            refine ⟨⟨by dsimp only; omega, by dsimp only; omega, by dsimp only; omega, by dsimp only; omega⟩, by omega, by omega, ?_⟩
            dsimp only
            cases hx : fdx fs (b p) with
            | none => rfl
            | some i => exact absurd (Or.inr (Or.inr (by rw [hx]; simp))) h2
section TELL
variable {X : Nat × (Nat → Int32)} {d : Nat} {S : am_S} {Q : am_R → Prop} {b : Nat → Nat} {tot p lim idp o : Nat} {id nm kd : Int32} {fs : List jFd}
set_option maxHeartbeats 1000000 in
theorem q_readField (hb : ∀ j, b j < 256) (h : sK S b tot p lim idp) (he : tyE S o id nm kd fs) (hfs : ∀ y, y ∈ fs → fdOK y) (hl : fs.length < 8) (ho : 3 ≤ o) (ho2 : o < 900000)
    (hret : ∀ y p' T, rdF1 b lim fs p = .inr (y, p') → fr [1, o, o + 1, o + 2, o + 3] S T → sK T b tot p' lim idp → tyE T o id nm kd (fs ++ [y]) → Q (.inl none, T))
    (hthr : ∀ k pl T, rdF1 b lim fs p = .inl (k, pl) → fr [1] S T → sX T tot k pl → Q (.inr IAE, am_thrown T)) : ev X (d + 4) 61 [.ref o, .ref 1] S Q := by
  obtain ⟨h0, f1, f2, f3, h1, h2, h3, h4⟩ := he
  refine ev_wp (L0 := [some (.ref o), some (.ref 1), none, none, none]) (Nat.le_of_ble_eq_true rfl) rfl ?_
  refine wp_step rfl rfl ?_
  refine wp_c0 rfl rfl (by decide) rfl (recv_ok h.1 rfl) rfl (q_oneByte h (fun T hlt hf hk => ?_) (fun T hlt hf hx => ?_))
  · have hn1 : ¬ lim ≤ p := by omega
    have bad : (b p < 97 ∨ 122 < b p ∨ fdx fs (b p) ≠ none) → wp X (d + 3) 61 25 [some (.ref o), some (.ref 1), some (.int (nI (b p))), none, none] [] T Q := by
      intro hbad
      iterate 3 refine wp_step rfl rfl ?_
      refine wp_getg rfl hk.1 (by decide) rfl ?_
      iterate 2 refine wp_step rfl rfl ?_
      rw [show nI (p + 1) - Int32.ofInt 1 = nI p from nI_pred p]
      refine wp_fl rfl rfl hk (fun T2 hf2 hx => hthr 4 _ _ ?_ (fr_trans hf hf2) hx)
      unfold rdF1; rw [if_neg hn1, if_pos hbad]
    have hbp := hb p
    have hTo : am_get T o = some (tyC o id nm kd (nI fs.length)) := by rw [fr_get hf (by simp only [List.mem_cons, List.not_mem_nil, or_false]; omega)]; exact h0
    have hT1 : am_get T (o + 1) = some (iA 8 f1) := by rw [fr_get hf (by simp only [List.mem_cons, List.not_mem_nil, or_false]; omega)]; exact h1
    iterate 3 refine wp_step rfl rfl ?_
    refine wp_icmp rfl (fun c => ?_) (fun c => ?_)
    · replace c := n_lt_t (a := b p) (b := 97) (by omega) (by omega) c
      exact bad (Or.inl c)
    · replace c := n_lt_f (a := b p) (b := 97) (by omega) (by omega) c
      iterate 2 refine wp_step rfl rfl ?_
      refine wp_icmp rfl (fun c2 => ?_) (fun c2 => ?_)
      · replace c2 := n_gt_t (a := b p) (b := 122) (by omega) (by omega) c2
        exact bad (Or.inr (Or.inl c2))
      · replace c2 := n_gt_f (a := b p) (b := 122) (by omega) (by omega) c2
        iterate 2 refine wp_step rfl rfl ?_
        refine wp_c0 rfl rfl (by decide) rfl (recv_ok hTo rfl) rfl (q_fieldNamed (w := b p) hTo hT1 (fun i y hy => (h4 i y hy).1) (fun i y hy => by have := hfs y (mem_at hy); unfold fdOK at this; omega) (by omega) (by omega) (by omega) ?_)
        cases hx : fdx fs (b p) with
        | some i =>
          have hi := fdx_lt hx
          refine wp_if_f rfl (show am_c1 .lt (nI i) = false from decide_eq_false (nI_pos (by omega))) ?_
          exact bad (Or.inr (Or.inr (by rw [hx]; simp)))
        | none =>
          refine wp_if_t rfl (by decide) ?_
          have hn2 : ¬ (b p < 97 ∨ 122 < b p ∨ fdx fs (b p) ≠ none) := by rw [hx]; simp; omega
          refine wp_step rfl rfl ?_
          refine wp_c0 rfl rfl (by decide) rfl (recv_ok hk.1 rfl) rfl (q_count hk (fun n p1 T2 hc hf2 hk2 => ?_) (fun T2 hc hf2 hx2 => ?_))
          · have hcl := cnt_lt hc
            iterate 2 refine wp_step rfl rfl ?_
            refine wp_c0 rfl rfl (by decide) rfl (recv_ok hk2.1 rfl) rfl (q_oneByte hk2 (fun T3 hlt3 hf3 hk3 => ?_) (fun T3 hlt3 hf3 hx3 => ?_))
            · have hf4 := fr_trans hf (fr_trans hf2 hf3)
              iterate 4 refine wp_step rfl rfl ?_
              refine wp_if rfl (fun c3 => ?_) (fun c3 => ?_)
              · have h3b := (n_and4' (hb p1)).mp c3
                have g0 : am_get T3 o = some (tyC o id nm kd (nI fs.length)) := by rw [fr_get hf4 (by simp only [List.mem_cons, List.not_mem_nil, or_false]; omega)]; exact h0
                have g1 : am_get T3 (o + 1) = some (iA 8 f1) := by rw [fr_get hf4 (by simp only [List.mem_cons, List.not_mem_nil, or_false]; omega)]; exact h1
                have g2 : am_get T3 (o + 2) = some (iA 8 f2) := by rw [fr_get hf4 (by simp only [List.mem_cons, List.not_mem_nil, or_false]; omega)]; exact h2
                have g3 : am_get T3 (o + 3) = some (iA 8 f3) := by rw [fr_get hf4 (by simp only [List.mem_cons, List.not_mem_nil, or_false]; omega)]; exact h3
                refine wp_step rfl rfl ?_
                refine wp_getg rfl g0 (by decide) rfl ?_
                refine wp_step rfl rfl ?_
                refine wp_getg rfl g0 (by decide) rfl ?_
                refine wp_step rfl rfl ?_
                refine wp_ast rfl (Or.inl ⟨rfl, rfl⟩) g1 (am_in_nI (by omega) (by decide)) ?_
                rw [nI_clamp (by omega)]
                refine wp_step rfl rfl ?_
                refine wp_getg rfl (by rw [am_get_ne (by omega)]; exact g0) (by decide) rfl ?_
                refine wp_step rfl rfl ?_
                refine wp_getg rfl (by rw [am_get_ne (by omega)]; exact g0) (by decide) rfl ?_
                refine wp_step rfl rfl ?_
                refine wp_ast rfl (Or.inl ⟨rfl, rfl⟩) (by rw [am_get_ne (by omega)]; exact g2) (am_in_nI (by omega) (by decide)) ?_
                rw [nI_clamp (by omega)]
                refine wp_step rfl rfl ?_
                refine wp_getg rfl (by rw [am_get_ne (by omega), am_get_ne (by omega)]; exact g0) (by decide) rfl ?_
                refine wp_step rfl rfl ?_
                refine wp_getg rfl (by rw [am_get_ne (by omega), am_get_ne (by omega)]; exact g0) (by decide) rfl ?_
                refine wp_step rfl rfl ?_
                refine wp_ast rfl (Or.inl ⟨rfl, rfl⟩) (by rw [am_get_ne (by omega), am_get_ne (by omega)]; exact g3) (am_in_nI (by omega) (by decide)) ?_
                rw [nI_clamp (by omega)]
                have g4 : ∀ x y z, am_get (am_upd (am_upd (am_upd T3 (o + 1) x) (o + 2) y) (o + 3) z) o = some (tyC o id nm kd (nI fs.length)) := fun x y z => by rw [am_get_ne (by omega), am_get_ne (by omega), am_get_ne (by omega)]; exact g0
                iterate 2 refine wp_step rfl rfl ?_
                refine wp_getg rfl (g4 _ _ _) (by decide) rfl ?_
                iterate 2 refine wp_step rfl rfl ?_
                rw [show nI fs.length + Int32.ofInt 1 = nI (fs.length + 1) from nI_add _ 1]
                refine wp_putg rfl (g4 _ _ _) (by decide) rfl rfl ?_
                rw [tyG_3]
                refine wp_vret rfl rfl ?_
                have e1 : rdF1 b lim fs p = .inr ((b p, n, b p1), p1 + 1) := by unfold rdF1; rw [if_neg hn1, if_neg hn2, hc]; dsimp only; rw [if_neg (by omega), if_neg (by omega)]
                have hf5 : fr [o, o + 1, o + 2, o + 3] T3 (am_upd (am_upd (am_upd (am_upd T3 (o + 1) (iA 8 (upd f1 fs.length (nI (b p))))) (o + 2) (iA 8 (upd f2 fs.length (nI n)))) (o + 3) (iA 8 (upd f3 fs.length (nI (b p1))))) o (tyC o id nm kd (nI (fs.length + 1)))) := fr_upd (fr_upd (fr_upd (fr_up (by simp)) (by simp)) (by simp)) (by simp)
                refine hret (b p, n, b p1) (p1 + 1) _ e1 (fr_sub hf4 (fr_mono hf5 (fun j hj => by simp only [List.mem_cons, List.not_mem_nil, or_false] at hj ⊢; omega)) (fun j hj => by simp only [List.mem_cons, List.not_mem_nil, or_false] at hj ⊢; omega)) (sK_fr hk3 hf5 (by simp only [List.mem_cons, List.not_mem_nil, or_false]; omega) (by simp only [List.mem_cons, List.not_mem_nil, or_false]; omega)) ⟨?_, _, _, _, ?_, ?_, ?_, fdE_add h4 (b p, n, b p1)⟩
                · rw [List.length_append]; exact am_get_self (g4 _ _ _)
                · rw [am_get_ne (by omega), am_get_ne (by omega), am_get_ne (by omega)]; exact am_get_self g1
                · rw [am_get_ne (by omega), am_get_ne (by omega)]; exact am_get_self (by rw [am_get_ne (by omega)]; exact g2)
                · rw [am_get_ne (by omega)]; exact am_get_self (by rw [am_get_ne (by omega), am_get_ne (by omega)]; exact g3)
              · have h3b : ¬ b p1 ≤ 3 := fun h9 => by rw [(n_and4' (hb p1)).mpr h9] at c3; cases c3
                iterate 3 refine wp_step rfl rfl ?_
                refine wp_getg rfl hk3.1 (by decide) rfl ?_
                iterate 2 refine wp_step rfl rfl ?_
                rw [show nI (p1 + 1) - Int32.ofInt 1 = nI p1 from nI_pred p1]
                refine wp_fl rfl rfl hk3 (fun T4 hf5 hx5 => hthr 4 _ _ ?_ (fr_trans hf4 hf5) hx5)
                unfold rdF1; rw [if_neg hn1, if_neg hn2, hc]; dsimp only; rw [if_neg (by omega), if_pos (by omega)]
            · exact hthr _ _ _ (by unfold rdF1; rw [if_neg hn1, if_neg hn2, hc]; dsimp only; rw [if_pos hlt3]) (fr_trans hf (fr_trans hf2 hf3)) hx3
          · exact hthr _ _ _ (by unfold rdF1; rw [if_neg hn1, if_neg hn2, hc]) (fr_trans hf hf2) hx2
  · exact hthr _ _ _ (by unfold rdF1; rw [if_pos hlt]) hf hx
end TELL
