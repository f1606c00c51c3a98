/-! A CHUNK'S TYPES, as its metadata tells them -/
def rdTs (b : Nat → Nat) (lim : Nat) : Nat → jTT → Nat → (Int32 × Nat) ⊕ (jTT × Nat)
  | 0, τ, p => .inr (τ, p)
  | n + 1, τ, p => (match cnt (Bn b) lim p with
    | none => .inl (2, p)
    | some (id, p1) => if id < 16 ∨ tix τ id ≠ none then .inl (4, p) else (match rdT1 b lim id p1 with
      | .inl e => .inl e
      | .inr (x, p') => rdTs b lim n (τ ++ [x]) p'))
def rdM (b : Nat → Nat) (s e : Nat) : (Int32 × Nat) ⊕ jTT :=
  if w2 b (s + 8) < 20 ∨ e ≤ s + w2 b (s + 8) then .inl (3, s + 8) else (match hd (Bn b) (s + w2 b (s + 8)) e with
    | .inl er => .inl er
    | .inr (len, id, p1, p2) => if id ≠ 0 then .inl (3, p1) else (match cnt (Bn b) (s + w2 b (s + 8) + len) p2 with
      | none => .inl (2, p2)
      | some (n, p3) => if 10 < n then .inl (4, p2) else (match rdTs b (s + w2 b (s + 8) + len) n [] p3 with
        | .inl er => .inl er
        | .inr (τ, p4) => if p4 < s + w2 b (s + 8) + len then .inl (5, p4) else .inr τ)))
theorem tix_none {τ : jTT} {w : Nat} (h : tix τ w = none) {t : Nat} {x : jTy} (hx : τ[t]? = some x) : x.1 ≠ w := by
  have h1 := fsti_none h t (Nat.zero_le _) (by have := (List.getElem?_eq_some_iff.mp hx).1; omega)
  intro e
  rw [hx] at h1
  simp [e] at h1
theorem wf_add {τ : jTT} {x : jTy} (h : wfT τ) (hl : τ.length < 10) (hx : tyOK x) (hn : tix τ x.1 = none) : wfT (τ ++ [x]) := by
  obtain ⟨h1, h2, h3⟩ := h
  have at1 : ∀ (i : Nat) (y : jTy), (τ ++ [x])[i]? = some y → (i < τ.length ∧ τ[i]? = some y) ∨ (i = τ.length ∧ y = x) := by
    intro i y hy
    rcases Nat.lt_or_ge i τ.length with hi | hi
    · rw [List.getElem?_append_left hi] at hy; exact Or.inl ⟨hi, hy⟩
    · rw [List.getElem?_append_right hi] at hy
      rcases Nat.eq_or_lt_of_le hi with e | e
      · subst e; simp at hy; exact Or.inr ⟨rfl, hy.symm⟩
      · rw [List.getElem?_eq_none (by simp; omega)] at hy; cases hy
  refine ⟨by simp; omega, fun y hy => ?_, fun i j y z hy hz e => ?_⟩
  · rcases List.mem_append.mp hy with h9 | h9
    · exact h2 y h9
    · rw [List.mem_singleton.mp h9]; exact hx
  · rcases at1 i y hy with ⟨hi, hy2⟩ | ⟨hi, rfl⟩ <;> rcases at1 j z hz with ⟨hj, hz2⟩ | ⟨hj, rfl⟩
    · exact h3 i j y z hy2 hz2 e
    · exact absurd e (tix_none hn hy2)
    · exact absurd e.symm (tix_none hn hz2)
    · omega
theorem ckT_add {S : am_S} {c : Nat} {τ : jTT} {x : jTy} (h : ckT S c τ) (hx : cT S (c + 5 + 4 * τ.length) x) : ckT S c (τ ++ [x]) := by
  intro i y hy
  rcases Nat.lt_or_ge i τ.length with hi | hi
  · rw [List.getElem?_append_left hi] at hy; exact h i y hy
  · rw [List.getElem?_append_right hi] at hy
    rcases Nat.eq_or_lt_of_le hi with e | e
    · subst e; simp at hy; subst hy; exact hx
    · rw [List.getElem?_eq_none (by simp; omega)] at hy; cases hy
def allS (S : am_S) (c : Nat) : Prop := ∀ t, t < 10 → cTs S (c + 5 + 4 * t)
def ckSh (S : am_S) (c : Nat) : Prop := (∃ st en tk fq nt nc, am_get S c = some (ckC c st en tk fq nt nc)) ∧ ckR S c ∧ allS S c
theorem ckR_fr {js : List Nat} {S T : am_S} {c : Nat} (h : ckR S c) (hf : fr js S T) (hj : c + 1 ∉ js) : ckR T c := by
  obtain ⟨F, h1, h2⟩ := h
  exact ⟨F, by rw [fr_get hf hj]; exact h1, h2⟩
theorem allS_fr {js : List Nat} {S T : am_S} {c : Nat} (h : allS S c) (hf : fr js S T) (hj : ∀ j, j ∈ js → j < c + 5 ∨ c + 45 ≤ j) : allS T c := by
  intro t ht
  exact cTs_fr (h t ht) hf ⟨fun h9 => by have := hj _ h9; omega, fun h9 => by have := hj _ h9; omega, fun h9 => by have := hj _ h9; omega, fun h9 => by have := hj _ h9; omega⟩
theorem ckT_fr {js : List Nat} {S T : am_S} {c : Nat} {τ : jTT} (h : ckT S c τ) (hl : τ.length ≤ 10) (hf : fr js S T) (hj : ∀ j, j ∈ js → j < c + 5 ∨ c + 5 + 4 * τ.length ≤ j) : ckT T c τ := by
  intro t x hx
  have ht := (List.getElem?_eq_some_iff.mp hx).1
  exact cT_fr (h t x hx) hf ⟨fun h9 => by have := hj _ h9; omega, fun h9 => by have := hj _ h9; omega, fun h9 => by have := hj _ h9; omega, fun h9 => by have := hj _ h9; omega⟩
theorem allS_one {S T : am_S} {c i : Nat} (h : allS S c) (hi : i < 10) (hf : fr [1, c + 5 + 4 * i, c + 5 + 4 * i + 1, c + 5 + 4 * i + 2, c + 5 + 4 * i + 3] S T) (hc : 3 ≤ c) (hT : cTs T (c + 5 + 4 * i)) : allS T c := by
  intro t ht
  by_cases e : t = i
  · subst e; exact hT
  · exact cTs_fr (h t ht) hf ⟨by simp only [List.mem_cons, List.not_mem_nil, or_false]; omega, by simp only [List.mem_cons, List.not_mem_nil, or_false]; omega, by simp only [List.mem_cons, List.not_mem_nil, or_false]; omega, by simp only [List.mem_cons, List.not_mem_nil, or_false]; omega⟩
section META
variable {X : Nat × (Nat → Int32)} {d : Nat} {Q : am_R → Prop} {b : Nat → Nat} {tot lim idp c s e : Nat} {tk fq : Int64} {nc : Int32}
set_option maxHeartbeats 2000000 in
theorem md_loop (hb : ∀ j, b j < 256) (hc3 : 3 ≤ c) (hc9 : c < 800000) {n pl0 cp : Nat} (hn : n ≤ 10) :
    ∀ (m i : Nat) (τ : jTT) (p : Nat) (S : am_S) (x6 x7 : Option Value), i + m = n → τ.length = i → wfT τ → sK S b tot p lim idp → am_get S c = some (ckC c (nI s) (nI e) tk fq (nI i) nc) → ckR S c → ckT S c τ → allS S c →
      (∀ τ' p' T x6 x7, rdTs b lim m τ p = .inr (τ', p') → fr (1 :: List.range' c 45) S T → sK T b tot p' lim idp → am_get T c = some (ckC c (nI s) (nI e) tk fq (nI n) nc) → ckR T c → ckT T c τ' → allS T c → wp X (d + 5) 7 174 [some (.ref c), some (.ref 1), some (.int (nI pl0)), some (.int (nI cp)), some (.int (nI n)), some (.int (nI n)), x6, x7] [] T Q) →
      (∀ k pl T, rdTs b lim m τ p = .inl (k, pl) → fr (1 :: List.range' c 45) S T → sX T tot k pl → ckSh T c → Q (.inr IAE, am_thrown T)) →
      wp X (d + 5) 7 103 [some (.ref c), some (.ref 1), some (.int (nI pl0)), some (.int (nI cp)), some (.int (nI n)), some (.int (nI i)), x6, x7] [] S Q := by
  intro m
  induction m with
  | zero =>
    intro i τ p S x6 x7 hi hτ hwf hk hcc hR hT hA hgo hthr
    iterate 2 refine wp_step rfl rfl ?_
    refine wp_icmp rfl (fun c0 => ?_) (fun c0 => ?_)
    · replace c0 := n_ge_t (a := i) (b := n) (by omega) (by omega) c0
      have e1 : i = n := by omega
      subst e1
      exact hgo τ p S _ _ rfl (fr_refl _ _) hk hcc hR hT hA
    · replace c0 := n_ge_f (a := i) (b := n) (by omega) (by omega) c0
      omega
  | succ m ih =>
    intro i τ p S x6 x7 hi hτ hwf hk hcc hR hT hA hgo hthr
    iterate 2 refine wp_step rfl rfl ?_
    refine wp_icmp rfl (fun c0 => ?_) (fun c0 => ?_)
    · replace c0 := n_ge_t (a := i) (b := n) (by omega) (by omega) c0
      omega
    · replace c0 := n_ge_f (a := i) (b := n) (by omega) (by omega) c0
      refine wp_step rfl rfl ?_
      refine wp_getg rfl hk.1 (by decide) rfl ?_
      iterate 2 refine wp_step rfl rfl ?_
      refine wp_c0 rfl rfl (by decide) rfl (recv_ok hk.1 rfl) rfl (q_count hk (fun id p1 T1 hcn hf1 hk1 => ?_) (fun T1 hcn hf1 hx1 => ?_))
      · have hid := cnt_lt hcn
        have hcc1 : am_get T1 c = some (ckC c (nI s) (nI e) tk fq (nI i) nc) := by rw [fr_get hf1 (by simp only [List.mem_cons, List.not_mem_nil, or_false, List.mem_range'_1]; omega)]; exact hcc
        have hR1 := ckR_fr hR hf1 (by simp only [List.mem_cons, List.not_mem_nil, or_false, List.mem_range'_1]; omega)
        have hT1 := ckT_fr hT hwf.1 hf1 (fun j hj => by simp only [List.mem_cons, List.not_mem_nil, or_false] at hj; omega)
        have hA1 := allS_fr hA hf1 (fun j hj => by simp only [List.mem_cons, List.not_mem_nil, or_false] at hj; omega)
        have hf1J := fr_mono (ks := (1 :: List.range' c 45)) hf1 (fun j hj => by simp only [List.mem_cons, List.not_mem_nil, or_false, List.mem_range'_1] at hj ⊢; omega)
        have bad : ∀ x7, (id < 16 ∨ tix τ id ≠ none) → wp X (d + 5) 7 138 [some (.ref c), some (.ref 1), some (.int (nI pl0)), some (.int (nI cp)), some (.int (nI n)), some (.int (nI i)), some (.int (nI p)), x7] [] T1 Q := by
          intro x7 hbad
          iterate 3 refine wp_step rfl rfl ?_
          refine wp_fl rfl rfl hk1 (fun T2 hf2 hx2 => hthr 4 p T2 ?_ (fr_trans hf1J (fr_mono hf2 (fun j hj => by simp only [List.mem_cons, List.not_mem_nil, or_false, List.mem_range'_1] at hj ⊢; omega))) hx2 ⟨⟨_, _, _, _, _, _, by rw [fr_get hf2 (by simp only [List.mem_cons, List.not_mem_nil, or_false, List.mem_range'_1]; omega)]; exact hcc1⟩, ckR_fr hR1 hf2 (by simp only [List.mem_cons, List.not_mem_nil, or_false, List.mem_range'_1]; omega), allS_fr hA1 hf2 (fun j hj => by simp only [List.mem_cons, List.not_mem_nil, or_false] at hj; omega)⟩)
          unfold rdTs; rw [hcn]; dsimp only; rw [if_pos hbad]
        have hO : ckO T1 c τ := ⟨⟨_, _, _, _, _, by rw [hτ]; exact hcc1⟩, hR1, hT1⟩
        iterate 3 refine wp_step rfl rfl ?_
        refine wp_icmp rfl (fun c1 => ?_) (fun c1 => ?_)
        · replace c1 := n_lt_t (a := id) (b := 16) (by omega) (by omega) c1
          exact bad _ (Or.inl c1)
        · replace c1 := n_lt_f (a := id) (b := 16) (by omega) (by omega) c1
          iterate 2 refine wp_step rfl rfl ?_
          refine wp_c0 rfl rfl (by decide) rfl (recv_ok hcc1 rfl) rfl (q_tw hwf hO (by omega) (by omega) ?_)
          cases hx : tix τ id with
          | some u =>
            rw [show oI (some u) = nI u from rfl]
            obtain ⟨z, hz, hz1, hul⟩ := tix_some hx
            have hl9 := hwf.1
            refine wp_if_f rfl (show am_c1 .lt (nI u) = false from decide_eq_false (nI_pos (by omega))) ?_
            exact bad _ (Or.inr (by rw [hx]; simp))
          | none =>
            refine wp_if_t rfl (by decide) ?_
            have hn2 : ¬ (id < 16 ∨ tix τ id ≠ none) := by rw [hx]; simp; omega
            have hR1c := hR1
            obtain ⟨F, hF1, hF⟩ := hR1c
            refine wp_step rfl rfl ?_
            refine wp_getg rfl hcc1 (by decide) rfl ?_
            refine wp_step rfl rfl ?_
            refine wp_aald rfl (by omega) hF1 (by decide) (am_in_nI (by omega) (by decide)) ?_
            rw [nI_clamp (by omega)]
            rw [hF i (by omega)]
            obtain ⟨z1, z2, z3, z4, z5, z6, z7, hz0, hzz⟩ : cTs T1 (c + 5 + 4 * i) := hA1 i (by omega)
            iterate 2 refine wp_step rfl rfl ?_
            refine wp_c0 rfl rfl (by decide) rfl (recv_ok hz0 rfl) rfl (q_typeRead hb hk1 (hA1 i (by omega)) (by omega) (by omega) (fun y p2 T2 e2 hf2 hk2 hy => ?_) (fun k pl T2 e2 hf2 hx2 hs2 => ?_))
            · have hcc2 : am_get T2 c = some (ckC c (nI s) (nI e) tk fq (nI i) nc) := by rw [fr_get hf2 (by simp only [List.mem_cons, List.not_mem_nil, or_false, List.mem_range'_1]; omega)]; exact hcc1
              obtain ⟨hyo, hy1, hp2, hp2l⟩ := rdT1_ok e2 c1 hid.1
              have hR2 := ckR_fr hR1 hf2 (by simp only [List.mem_cons, List.not_mem_nil, or_false, List.mem_range'_1]; omega)
              have hT2 := ckT_fr hT1 hwf.1 hf2 (fun j hj => by simp only [List.mem_cons, List.not_mem_nil, or_false] at hj; omega)
              have hT3 := ckT_add hT2 (x := y) (by rw [hτ]; exact hy)
              have hA2 := allS_one hA1 (by omega) hf2 hc3 (cT_s hy)
              iterate 2 refine wp_step rfl rfl ?_
              refine wp_getg rfl hcc2 (by decide) rfl ?_
              iterate 2 refine wp_step rfl rfl ?_
              rw [show nI i + Int32.ofInt 1 = nI (i + 1) from nI_add i 1]
              refine wp_putg rfl hcc2 (by decide) rfl rfl ?_
              rw [ckG_4]
              iterate 2 refine wp_step rfl rfl ?_
              rw [show nI i + Int32.ofInt 1 = nI (i + 1) from nI_add i 1]
              have hf3 : fr [c] T2 (am_upd T2 c (ckC c (nI s) (nI e) tk fq (nI (i + 1)) nc)) := fr_up (by simp)
              refine ih (i + 1) (τ ++ [y]) p2 _ _ _ (by omega) (by simp; omega) (wf_add hwf (by omega) hyo (by rw [hy1]; exact hx)) (sK_fr hk2 hf3 (by simp only [List.mem_cons, List.not_mem_nil, or_false, List.mem_range'_1]; omega) (by simp only [List.mem_cons, List.not_mem_nil, or_false, List.mem_range'_1]; omega)) (am_get_self hcc2) (ckR_fr hR2 hf3 (by simp only [List.mem_cons, List.not_mem_nil, or_false, List.mem_range'_1]; omega)) (ckT_fr hT3 (by simp; omega) hf3 (fun j hj => by simp only [List.mem_cons, List.not_mem_nil, or_false] at hj; omega)) (allS_fr hA2 hf3 (fun j hj => by simp only [List.mem_cons, List.not_mem_nil, or_false] at hj; omega)) (fun τ' p' T x6 x7 e3 hf4 => hgo τ' p' T x6 x7 (by unfold rdTs; rw [hcn]; dsimp only; rw [if_neg hn2, e2]; exact e3) (fr_trans hf1J (fr_trans (fr_mono hf2 (fun j hj => by simp only [List.mem_cons, List.not_mem_nil, or_false, List.mem_range'_1] at hj ⊢; omega)) (fr_trans (fr_mono hf3 (fun j hj => by simp only [List.mem_cons, List.not_mem_nil, or_false, List.mem_range'_1] at hj ⊢; omega)) hf4)))) (fun k pl T e3 hf4 => hthr k pl T (by unfold rdTs; rw [hcn]; dsimp only; rw [if_neg hn2, e2]; exact e3) (fr_trans hf1J (fr_trans (fr_mono hf2 (fun j hj => by simp only [List.mem_cons, List.not_mem_nil, or_false, List.mem_range'_1] at hj ⊢; omega)) (fr_trans (fr_mono hf3 (fun j hj => by simp only [List.mem_cons, List.not_mem_nil, or_false, List.mem_range'_1] at hj ⊢; omega)) hf4))))
            · exact hthr k pl T2 (by unfold rdTs; rw [hcn]; dsimp only; rw [if_neg hn2, e2]) (fr_trans hf1J (fr_mono hf2 (fun j hj => by simp only [List.mem_cons, List.not_mem_nil, or_false, List.mem_range'_1] at hj ⊢; omega))) hx2 ⟨⟨_, _, _, _, _, _, by rw [fr_get hf2 (by simp only [List.mem_cons, List.not_mem_nil, or_false, List.mem_range'_1]; omega)]; exact hcc1⟩, ckR_fr hR1 hf2 (by simp only [List.mem_cons, List.not_mem_nil, or_false, List.mem_range'_1]; omega), allS_one hA1 (by omega) hf2 hc3 hs2⟩
      · exact hthr _ _ _ (by unfold rdTs; rw [hcn]) (fr_mono hf1 (fun j hj => by simp only [List.mem_cons, List.not_mem_nil, or_false, List.mem_range'_1] at hj ⊢; omega)) hx1 ⟨⟨_, _, _, _, _, _, by rw [fr_get hf1 (by simp only [List.mem_cons, List.not_mem_nil, or_false, List.mem_range'_1]; omega)]; exact hcc⟩, ckR_fr hR hf1 (by simp only [List.mem_cons, List.not_mem_nil, or_false, List.mem_range'_1]; omega), allS_fr hA hf1 (fun j hj => by simp only [List.mem_cons, List.not_mem_nil, or_false] at hj; omega)⟩
end META
