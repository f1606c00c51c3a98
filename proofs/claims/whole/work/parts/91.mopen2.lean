/-! THE MODEL: open -/
def opB (fs : List Nat) (B : Nat → Nat) (w : Nat) : Nat → Nat := fun j => match fs[j]? with
  | some x => x
  | none => B (960 * w + j)
theorem opB_lt {fs : List Nat} {B : Nat → Nat} {w : Nat} (hfs : ∀ x, x ∈ fs → x < 256) (hB : ∀ j, B j < 256) : ∀ j, opB fs B w j < 256 := by
  intro j
  unfold opB
  cases e : fs[j]? with
  | some x => exact hfs x (List.mem_of_getElem? e)
  | none => exact hB _
section MOPEN2
variable {X : Nat × (Nat → Int32)} {d : Nat} {Q : am_R → Prop} {st li : Int64} {w : Nat}
theorem mo_sel {n : Nat} {z1 z2 z3 : Int32} {I : Nat → Int32} (hn : n ≤ 60) (h45 : I 45 = nI n) : ∀ (m k : Nat) (S : am_S) (ch : Nat → Int32), k + m = n → am_get S 408 = some (moC I st li) → am_get S 432 = some (iA 60 ch) → (∀ j, j < k → ch j = nI j) →
    (∀ T ch', fr [432] S T → am_get T 432 = some (iA 60 ch') → (∀ j, j < n → ch' j = nI j) → ∀ z, wp X d 112 250 [some (.ref 408), some (.int z1), some (.int z2), some (.int z3), some (.int z)] [] T Q) → wp X d 112 226 [some (.ref 408), some (.int z1), some (.int z2), some (.int z3), some (.int (nI k))] [] S Q := by
  intro m
  induction m with
  | zero =>
    intro k S ch hk h hc hk2 hret
    have e9 : k = n := by omega
    subst e9
    iterate 2 refine wp_step rfl rfl ?_
    refine wp_getg (v := (.int (nI k))) rfl h (by decide) (congrArg Value.int h45) ?_
    refine wp_icmp rfl (fun c0 => ?_) (fun c0 => ?_)
    · replace c0 := n_ge_t (a := k) (b := k) (by omega) (by omega) c0
      exact hret S ch (fr_refl _ _) hc hk2 _
    · replace c0 := n_ge_f (a := k) (b := k) (by omega) (by omega) c0
      omega
  | succ m ih =>
    intro k S ch hk h hc hk2 hret
    iterate 2 refine wp_step rfl rfl ?_
    refine wp_getg (v := (.int (nI n))) rfl h (by decide) (congrArg Value.int h45) ?_
    refine wp_icmp rfl (fun c0 => ?_) (fun c0 => ?_)
    · replace c0 := n_ge_t (a := k) (b := n) (by omega) (by omega) c0
      omega
    · replace c0 := n_ge_f (a := k) (b := n) (by omega) (by omega) c0
      refine wp_step rfl rfl ?_
      refine wp_getg rfl h (by decide) rfl ?_
      iterate 2 refine wp_step rfl rfl ?_
      refine wp_ast rfl (Or.inl ⟨rfl, rfl⟩) hc (am_in_nI (by omega) (by decide)) ?_
      rw [nI_clamp (by omega)]
      rw [show vp_nar (am_ty 0) (nI k) = nI k from rfl]
      show wp X d 112 244 [some (.ref 408), some (.int z1), some (.int z2), some (.int z3), some (.int (nI k))] [] (am_upd S 432 (iA 60 (upd ch k (nI k)))) Q
      have h' : am_get (am_upd S 432 (iA 60 (upd ch k (nI k)))) 408 = some (moC I st li) := (am_get_ne (by decide)).trans h
      have hc' : am_get (am_upd S 432 (iA 60 (upd ch k (nI k)))) 432 = some (iA 60 (upd ch k (nI k))) := am_get_self hc
      have hf : fr [432] S (am_upd S 432 (iA 60 (upd ch k (nI k)))) := fr_up (by simp)
      generalize am_upd S 432 (iA 60 (upd ch k (nI k))) = S1 at h' hc' hf ⊢
      iterate 2 refine wp_step rfl rfl ?_
      rw [show nI k + Int32.ofInt 1 = nI (k + 1) from nI_add k 1]
      exact ih (k + 1) S1 _ (by omega) h' hc' (fun j hj => by
          by_cases e9 : j = k
          · rw [e9]; exact pk_us
          · exact (pk_un e9).trans (hk2 j (by omega))) (fun T ch' hf2 hc2 g z => hret T ch' (fr_trans hf hf2) hc2 g z)
set_option maxHeartbeats 4000000 in
theorem q_mopen {S : am_S} {I : Nat → Int32} {K : jMK} {M : jMT} {E : jME} {C : jMC} {fs : List Nat} {F mb sz ch : Nat → Int32} {B : Nat → Nat} {v : Nat} (hwv : w + v = 1) (h : am_get S 408 = some (moC I st li)) (h2 : I 2 = nI fs.length) (h3 : I 3 = nI v) (h9 : am_get S 409 = some (iA 960 F)) (hF : ∀ (i x : Nat), fs[i]? = some x → F i = nI x) (hl : fs.length ≤ 960) (hm : am_get S 410 = some (iA 1920 mb)) (hmB : ∀ j, j < 1920 → mb j = nI (B j)) (hfs : ∀ x, x ∈ fs → x < 256) (hB : ∀ j, B j < 256) (hsz : am_get S 411 = some (iA 2 sz)) (hK : mSk S K) (hM : mTa S M) (hE : mEA S E) (hC : mCA S C) (hch : am_get S 432 = some (iA 60 ch))
    (hret : ∀ re T J li' K' M' E' C' mb' ch', rdA (opB fs B w) fs.length = .inr re → fr [408, 410, 411, 412, 413, 414, 415, 416, 417, 418, 419, 420, 421, 422, 423, 424, 425, 426, 427, 432] S T → gf [0, 2, 3, 19, 20, 21, 22, 23, 24, 25, 26, 27, 28, 29, 45, 49, 57] I J → am_get T 408 = some (moC J st li') → J 0 = 0 → J 2 = 0 → J 3 = nI w → J 23 = 0 → J 25 = 0 → J 27 = 0 → J 28 = -1 → J 45 = nI re.2.1.length → J 49 = 0 → mSk T K' → mTa T M' → mEA T E' → mEs E' w re.2.1 → mEo E E' w → mCA T C' → mCs C' w re.2.2 → mCo C C' w → mTw M M' w → mTs M' w re.2.2 → re.2.1.length ≤ 60 → re.2.2.length ≤ 4 → am_get T 410 = some (iA 1920 mb') → (∀ j, j < 960 → mb' (960 * w + j) = nI (opB fs B w j)) → (∀ j, j < 960 * w ∨ 960 * w + 960 ≤ j → mb' j = mb j) → am_get T 411 = some (iA 2 (upd sz w (nI fs.length))) → am_get T 432 = some (iA 60 ch') → (∀ j, j < re.2.1.length → ch' j = nI j) → Q (.inl (some (.int (nI re.2.1.length))), T))
    (hbad : ∀ k pl T J li' K' M' E' C' mb', rdA (opB fs B w) fs.length = .inl (k, pl) → fr [408, 410, 411, 412, 413, 414, 415, 416, 417, 418, 419, 420, 421, 422, 423, 424, 425, 426, 427, 432] S T → gf [0, 2, 19, 20, 21, 22, 23, 24, 25, 26, 27, 28, 29, 57] I J → am_get T 408 = some (moC J st li') → J 0 = 1 → J 2 = 0 → J 23 = 0 → J 25 = 0 → J 27 = k → J 28 = nI pl → mSk T K' → mTa T M' → mEA T E' → mEo E E' w → mCA T C' → mCo C C' w → mTw M M' w → am_get T 410 = some (iA 1920 mb') → (∀ j, j < 960 → mb' (960 * w + j) = nI (opB fs B w j)) → (∀ j, j < 960 * w ∨ 960 * w + 960 ≤ j → mb' j = mb j) → am_get T 411 = some (iA 2 (upd sz w (nI fs.length))) → am_get T 432 = some (iA 60 ch) → Q (.inl (some (.int 0)), T)) : ev X (d + 11) 112 [.ref 408] S Q := by
  refine ev_wp (L0 := [some (.ref 408), none, none, none, none]) (Nat.le_of_ble_eq_true rfl) rfl ?_
  have hw : w ≤ 1 := by omega
  iterate 2 refine wp_step rfl rfl ?_
  refine wp_putg rfl h (by decide) rfl rfl ?_
  rw [mkG_i rfl]
  have h_S1 : am_get (am_upd S 408 (moC (upd I 0 (Int32.ofInt 0)) st li)) 408 = some (moC (upd I 0 (Int32.ofInt 0)) st li) := am_get_self h
  have hf_S1 : fr [408] S (am_upd S 408 (moC (upd I 0 (Int32.ofInt 0)) st li)) := fr_up (by simp)
  generalize am_upd S 408 (moC (upd I 0 (Int32.ofInt 0)) st li) = S1 at h_S1 hf_S1 ⊢
  iterate 3 refine wp_step rfl rfl ?_
  refine wp_getg (v := (.int (nI v))) rfl h_S1 (by decide) (congrArg Value.int h3) ?_
  refine wp_step rfl rfl ?_
  rw [show Int32.ofInt 1 - nI v = nI w by rw [show Int32.ofInt 1 = nI 1 from rfl, pk_sub (by omega), show 1 - v = w by omega]]
  refine wp_putg rfl h_S1 (by decide) rfl rfl ?_
  rw [mkG_i rfl]
  have h_S2 : am_get (am_upd S1 408 (moC (upd (upd I 0 (Int32.ofInt 0)) 19 (nI w)) st li)) 408 = some (moC (upd (upd I 0 (Int32.ofInt 0)) 19 (nI w)) st li) := am_get_self h_S1
  have hf_S2 : fr [408] S1 (am_upd S1 408 (moC (upd (upd I 0 (Int32.ofInt 0)) 19 (nI w)) st li)) := fr_up (by simp)
  generalize am_upd S1 408 (moC (upd (upd I 0 (Int32.ofInt 0)) 19 (nI w)) st li) = S2 at h_S2 hf_S2 ⊢
  have hg2 : gf [0, 19] I (upd (upd I 0 (Int32.ofInt 0)) 19 (nI w)) := gf_up (gf_up (gf_refl _ _) (by simp)) (by simp)
  have k19 : (upd (upd I 0 (Int32.ofInt 0)) 19 (nI w)) 19 = nI w := pk_us
  have k0 : (upd (upd I 0 (Int32.ofInt 0)) 19 (nI w)) 0 = 0 := (pk_un (by decide)).trans pk_us
  generalize upd (upd I 0 (Int32.ofInt 0)) 19 (nI w) = I2 at h_S2 hg2 k19 k0
  have hf2 : fr [408] S S2 := fr_trans hf_S1 hf_S2
  clear hf_S1 hf_S2 h_S1
  iterate 2 refine wp_step rfl rfl ?_
  show wp X (d + 10) 112 17 [some (.ref 408), some (.int (nI 0)), none, none, none] [] S2 Q
  refine mo_copy hw hl ((hg2 2 (by decide)).trans h2) k19 fs.length 0 S2 mb (by omega) h_S2 (by rw [fr_get hf2 (by decide)]; exact h9) (by rw [fr_get hf2 (by decide)]; exact hm) (fun S3 mb3 hf3 hm3 g1 g2 zz => ?_)
  have h_S3 : am_get S3 408 = some (moC I2 st li) := by rw [fr_get hf3 (by decide)]; exact h_S2
  have hby : ∀ j, j < 960 → mb3 (960 * w + j) = nI (opB fs B w j) := by
    intro j hj
    unfold opB
    cases e : fs[j]? with
    | some x =>
      have hlt := (List.getElem?_eq_some_iff.mp e).1
      rw [g1 j (by omega) hlt]
      exact hF j x e
    | none =>
      have hge := List.getElem?_eq_none_iff.mp e
      rw [g2 _ (by omega)]
      exact hmB _ (by omega)
  have hoth : ∀ j, j < 960 * w ∨ 960 * w + 960 ≤ j → mb3 j = mb j := fun j hj => g2 j (by omega)
  have hf03 : fr [408, 410, 411, 412, 413, 414, 415, 416, 417, 418, 419, 420, 421, 422, 423, 424, 425, 426, 427, 432] S S3 := fr_trans (fr_mono hf2 (fun j hj => by simp only [List.mem_cons, List.not_mem_nil, or_false] at hj ⊢; omega)) (fr_mono hf3 (fun j hj => by simp only [List.mem_cons, List.not_mem_nil, or_false] at hj ⊢; omega))
  have hK3 := mSk_fr (mSk_fr hK hf2 (fun j hj => by simp only [List.mem_cons, List.not_mem_nil, or_false] at hj; omega)) hf3 (fun j hj => by simp only [List.mem_cons, List.not_mem_nil, or_false] at hj; omega)
  have hM3 := mTa_fr (mTa_fr hM hf2 (fun j hj => by simp only [List.mem_cons, List.not_mem_nil, or_false] at hj; omega)) hf3 (fun j hj => by simp only [List.mem_cons, List.not_mem_nil, or_false] at hj; omega)
  have hE3 := mEA_fr (mEA_fr hE hf2 (fun j hj => by simp only [List.mem_cons, List.not_mem_nil, or_false] at hj; omega)) hf3 (fun j hj => by simp only [List.mem_cons, List.not_mem_nil, or_false] at hj; omega)
  have hC3 := mCA_fr (mCA_fr hC hf2 (fun j hj => by simp only [List.mem_cons, List.not_mem_nil, or_false] at hj; omega)) hf3 (fun j hj => by simp only [List.mem_cons, List.not_mem_nil, or_false] at hj; omega)
  have hs3 : am_get S3 411 = some (iA 2 sz) := by rw [fr_get hf3 (by decide), fr_get hf2 (by decide)]; exact hsz
  have hh3 : am_get S3 432 = some (iA 60 ch) := by rw [fr_get hf3 (by decide), fr_get hf2 (by decide)]; exact hch
  clear g1 g2 hf3 hf2 h_S2
  refine wp_step rfl rfl ?_
  refine wp_getg rfl h_S3 (by decide) rfl ?_
  refine wp_step rfl rfl ?_
  refine wp_getg (v := (.int (nI w))) rfl h_S3 (by decide) (congrArg Value.int k19) ?_
  refine wp_step rfl rfl ?_
  refine wp_getg (v := (.int (nI fs.length))) rfl h_S3 (by decide) (congrArg Value.int ((hg2 2 (by decide)).trans h2)) ?_
  refine wp_ast rfl (Or.inl ⟨rfl, rfl⟩) hs3 (am_in_nI (by omega) (by decide)) ?_
  rw [nI_clamp (by omega)]
  rw [show vp_nar (am_ty 0) (nI fs.length) = nI fs.length from rfl]
  show wp X (d + 10) 112 65 [some (.ref 408), some (.int zz), none, none, none] [] (am_upd S3 411 (iA 2 (upd sz w (nI fs.length)))) Q
  have h_S4 : am_get (am_upd S3 411 (iA 2 (upd sz w (nI fs.length)))) 408 = some (moC I2 st li) := (am_get_ne (by decide)).trans h_S3
  have hf_S4 : fr [411] S3 (am_upd S3 411 (iA 2 (upd sz w (nI fs.length)))) := fr_up (by simp)
  have hc_S4 : am_get (am_upd S3 411 (iA 2 (upd sz w (nI fs.length)))) 411 = some (iA 2 (upd sz w (nI fs.length))) := am_get_self hs3
  generalize am_upd S3 411 (iA 2 (upd sz w (nI fs.length))) = S4 at h_S4 hf_S4 hc_S4 ⊢
  iterate 2 refine wp_step rfl rfl ?_
  refine wp_putg rfl h_S4 (by decide) rfl rfl ?_
  rw [mkG_i rfl]
  have h_S5 : am_get (am_upd S4 408 (moC (upd I2 2 (Int32.ofInt 0)) st li)) 408 = some (moC (upd I2 2 (Int32.ofInt 0)) st li) := am_get_self h_S4
  have hf_S5 : fr [408] S4 (am_upd S4 408 (moC (upd I2 2 (Int32.ofInt 0)) st li)) := fr_up (by simp)
  generalize am_upd S4 408 (moC (upd I2 2 (Int32.ofInt 0)) st li) = S5 at h_S5 hf_S5 ⊢
  refine wp_step rfl rfl ?_
  refine wp_getg rfl h_S5 (by decide) rfl ?_
  refine wp_step rfl rfl ?_
  refine wp_getg (v := (.int (nI w))) rfl h_S5 (by decide) (congrArg Value.int k19) ?_
  refine wp_step rfl rfl ?_
  have hC5 := mCA_fr (mCA_fr hC3 hf_S4 (fun j hj => by simp only [List.mem_cons, List.not_mem_nil, or_false] at hj; omega)) hf_S5 (fun j hj => by simp only [List.mem_cons, List.not_mem_nil, or_false] at hj; omega)
  have hE5 := mEA_fr (mEA_fr hE3 hf_S4 (fun j hj => by simp only [List.mem_cons, List.not_mem_nil, or_false] at hj; omega)) hf_S5 (fun j hj => by simp only [List.mem_cons, List.not_mem_nil, or_false] at hj; omega)
  refine wp_ast rfl (Or.inl ⟨rfl, rfl⟩) hC5.1 (am_in_nI (by omega) (by decide)) ?_
  rw [nI_clamp (by omega)]
  rw [show vp_nar (am_ty 0) (Int32.ofInt 0) = Int32.ofInt 0 from rfl]
  show wp X (d + 10) 112 80 [some (.ref 408), some (.int zz), none, none, none] [] (am_upd S5 412 (iA 2 (upd C.1 w (nI 0)))) Q
  have h_S6 : am_get (am_upd S5 412 (iA 2 (upd C.1 w (nI 0)))) 408 = some (moC (upd I2 2 (Int32.ofInt 0)) st li) := (am_get_ne (by decide)).trans h_S5
  have hf_S6 : fr [412] S5 (am_upd S5 412 (iA 2 (upd C.1 w (nI 0)))) := fr_up (by simp)
  have hc_S6 : am_get (am_upd S5 412 (iA 2 (upd C.1 w (nI 0)))) 412 = some (iA 2 (upd C.1 w (nI 0))) := am_get_self hC5.1
  generalize am_upd S5 412 (iA 2 (upd C.1 w (nI 0))) = S6 at h_S6 hf_S6 hc_S6 ⊢
  have hC6 : mCA S6 (upd C.1 w (nI 0), C.2) := ⟨hc_S6, by rw [fr_get hf_S6 (by decide)]; exact hC5.2⟩
  have hE6 := mEA_fr hE5 hf_S6 (fun j hj => by simp only [List.mem_cons, List.not_mem_nil, or_false] at hj; omega)
  refine wp_step rfl rfl ?_
  refine wp_getg rfl h_S6 (by decide) rfl ?_
  refine wp_step rfl rfl ?_
  refine wp_getg (v := (.int (nI w))) rfl h_S6 (by decide) (congrArg Value.int k19) ?_
  refine wp_step rfl rfl ?_
  refine wp_ast rfl (Or.inl ⟨rfl, rfl⟩) hE6.1 (am_in_nI (by omega) (by decide)) ?_
  rw [nI_clamp (by omega)]
  rw [show vp_nar (am_ty 0) (Int32.ofInt 0) = Int32.ofInt 0 from rfl]
  show wp X (d + 10) 112 90 [some (.ref 408), some (.int zz), none, none, none] [] (am_upd S6 414 (iA 2 (upd E.1 w (nI 0)))) Q
  have h_S7 : am_get (am_upd S6 414 (iA 2 (upd E.1 w (nI 0)))) 408 = some (moC (upd I2 2 (Int32.ofInt 0)) st li) := (am_get_ne (by decide)).trans h_S6
  have hf_S7 : fr [414] S6 (am_upd S6 414 (iA 2 (upd E.1 w (nI 0)))) := fr_up (by simp)
  have hc_S7 : am_get (am_upd S6 414 (iA 2 (upd E.1 w (nI 0)))) 414 = some (iA 2 (upd E.1 w (nI 0))) := am_get_self hE6.1
  generalize am_upd S6 414 (iA 2 (upd E.1 w (nI 0))) = S7 at h_S7 hf_S7 hc_S7 ⊢
  have hE7 : mEA S7 (upd E.1 w (nI 0), E.2.1, E.2.2) := ⟨hc_S7, by rw [fr_get hf_S7 (by decide)]; exact hE6.2.1, by rw [fr_get hf_S7 (by decide)]; exact hE6.2.2⟩
  have hC7 := mCA_fr hC6 hf_S7 (fun j hj => by simp only [List.mem_cons, List.not_mem_nil, or_false] at hj; omega)
  iterate 2 refine wp_step rfl rfl ?_
  refine wp_putg rfl h_S7 (by decide) rfl rfl ?_
  rw [mkG_i rfl]
  have h_S8 : am_get (am_upd S7 408 (moC (upd (upd I2 2 (Int32.ofInt 0)) 24 (Int32.ofInt 0)) st li)) 408 = some (moC (upd (upd I2 2 (Int32.ofInt 0)) 24 (Int32.ofInt 0)) st li) := am_get_self h_S7
  have hf_S8 : fr [408] S7 (am_upd S7 408 (moC (upd (upd I2 2 (Int32.ofInt 0)) 24 (Int32.ofInt 0)) st li)) := fr_up (by simp)
  generalize am_upd S7 408 (moC (upd (upd I2 2 (Int32.ofInt 0)) 24 (Int32.ofInt 0)) st li) = S8 at h_S8 hf_S8 ⊢
  iterate 2 refine wp_step rfl rfl ?_
  refine wp_putg rfl h_S8 (by decide) rfl rfl ?_
  rw [mkG_i rfl]
  have h_S9 : am_get (am_upd S8 408 (moC (upd (upd (upd I2 2 (Int32.ofInt 0)) 24 (Int32.ofInt 0)) 25 (Int32.ofInt 0)) st li)) 408 = some (moC (upd (upd (upd I2 2 (Int32.ofInt 0)) 24 (Int32.ofInt 0)) 25 (Int32.ofInt 0)) st li) := am_get_self h_S8
  have hf_S9 : fr [408] S8 (am_upd S8 408 (moC (upd (upd (upd I2 2 (Int32.ofInt 0)) 24 (Int32.ofInt 0)) 25 (Int32.ofInt 0)) st li)) := fr_up (by simp)
  generalize am_upd S8 408 (moC (upd (upd (upd I2 2 (Int32.ofInt 0)) 24 (Int32.ofInt 0)) 25 (Int32.ofInt 0)) st li) = S9 at h_S9 hf_S9 ⊢
  iterate 2 refine wp_step rfl rfl ?_
  refine wp_putg rfl h_S9 (by decide) rfl rfl ?_
  rw [mkG_i rfl]
  have h_S10 : am_get (am_upd S9 408 (moC (upd (upd (upd (upd I2 2 (Int32.ofInt 0)) 24 (Int32.ofInt 0)) 25 (Int32.ofInt 0)) 26 (Int32.ofInt (-1))) st li)) 408 = some (moC (upd (upd (upd (upd I2 2 (Int32.ofInt 0)) 24 (Int32.ofInt 0)) 25 (Int32.ofInt 0)) 26 (Int32.ofInt (-1))) st li) := am_get_self h_S9
  have hf_S10 : fr [408] S9 (am_upd S9 408 (moC (upd (upd (upd (upd I2 2 (Int32.ofInt 0)) 24 (Int32.ofInt 0)) 25 (Int32.ofInt 0)) 26 (Int32.ofInt (-1))) st li)) := fr_up (by simp)
  generalize am_upd S9 408 (moC (upd (upd (upd (upd I2 2 (Int32.ofInt 0)) 24 (Int32.ofInt 0)) 25 (Int32.ofInt 0)) 26 (Int32.ofInt (-1))) st li) = S10 at h_S10 hf_S10 ⊢
  iterate 2 refine wp_step rfl rfl ?_
  refine wp_putg rfl h_S10 (by decide) rfl rfl ?_
  rw [mkG_i rfl]
  have h_S11 : am_get (am_upd S10 408 (moC (upd (upd (upd (upd (upd I2 2 (Int32.ofInt 0)) 24 (Int32.ofInt 0)) 25 (Int32.ofInt 0)) 26 (Int32.ofInt (-1))) 23 (Int32.ofInt 1)) st li)) 408 = some (moC (upd (upd (upd (upd (upd I2 2 (Int32.ofInt 0)) 24 (Int32.ofInt 0)) 25 (Int32.ofInt 0)) 26 (Int32.ofInt (-1))) 23 (Int32.ofInt 1)) st li) := am_get_self h_S10
  have hf_S11 : fr [408] S10 (am_upd S10 408 (moC (upd (upd (upd (upd (upd I2 2 (Int32.ofInt 0)) 24 (Int32.ofInt 0)) 25 (Int32.ofInt 0)) 26 (Int32.ofInt (-1))) 23 (Int32.ofInt 1)) st li)) := fr_up (by simp)
  generalize am_upd S10 408 (moC (upd (upd (upd (upd (upd I2 2 (Int32.ofInt 0)) 24 (Int32.ofInt 0)) 25 (Int32.ofInt 0)) 26 (Int32.ofInt (-1))) 23 (Int32.ofInt 1)) st li) = S11 at h_S11 hf_S11 ⊢
  have hg3 : gf [2, 23, 24, 25, 26] I2 (upd (upd (upd (upd (upd I2 2 (Int32.ofInt 0)) 24 (Int32.ofInt 0)) 25 (Int32.ofInt 0)) 26 (Int32.ofInt (-1))) 23 (Int32.ofInt 1)) := gf_up (gf_up (gf_up (gf_up (gf_up (gf_refl _ _) (by simp)) (by simp)) (by simp)) (by simp)) (by simp)
  have i23 : (upd (upd (upd (upd (upd I2 2 (Int32.ofInt 0)) 24 (Int32.ofInt 0)) 25 (Int32.ofInt 0)) 26 (Int32.ofInt (-1))) 23 (Int32.ofInt 1)) 23 = 1 := pk_us
  have i26 : (upd (upd (upd (upd (upd I2 2 (Int32.ofInt 0)) 24 (Int32.ofInt 0)) 25 (Int32.ofInt 0)) 26 (Int32.ofInt (-1))) 23 (Int32.ofInt 1)) 26 = -1 := (pk_un (by decide)).trans (pk_us)
  have i25 : (upd (upd (upd (upd (upd I2 2 (Int32.ofInt 0)) 24 (Int32.ofInt 0)) 25 (Int32.ofInt 0)) 26 (Int32.ofInt (-1))) 23 (Int32.ofInt 1)) 25 = 0 := (pk_un (by decide)).trans ((pk_un (by decide)).trans (pk_us))
  have i24 : (upd (upd (upd (upd (upd I2 2 (Int32.ofInt 0)) 24 (Int32.ofInt 0)) 25 (Int32.ofInt 0)) 26 (Int32.ofInt (-1))) 23 (Int32.ofInt 1)) 24 = nI 0 := (pk_un (by decide)).trans ((pk_un (by decide)).trans ((pk_un (by decide)).trans (pk_us)))
  have i2 : (upd (upd (upd (upd (upd I2 2 (Int32.ofInt 0)) 24 (Int32.ofInt 0)) 25 (Int32.ofInt 0)) 26 (Int32.ofInt (-1))) 23 (Int32.ofInt 1)) 2 = 0 := (pk_un (by decide)).trans ((pk_un (by decide)).trans ((pk_un (by decide)).trans ((pk_un (by decide)).trans (pk_us))))
  generalize upd (upd (upd (upd (upd I2 2 (Int32.ofInt 0)) 24 (Int32.ofInt 0)) 25 (Int32.ofInt 0)) 26 (Int32.ofInt (-1))) 23 (Int32.ofInt 1) = I3 at h_S11 hg3 i23 i26 i25 i24 i2
  have hf711 : fr [408] S7 S11 := fr_trans hf_S8 (fr_trans hf_S9 (fr_trans hf_S10 hf_S11))
  have hf37 : fr [408, 411, 412, 414] S3 S7 := fr_trans (fr_mono hf_S4 (fun j hj => by simp only [List.mem_cons, List.not_mem_nil, or_false] at hj ⊢; omega)) (fr_trans (fr_mono hf_S5 (fun j hj => by simp only [List.mem_cons, List.not_mem_nil, or_false] at hj ⊢; omega)) (fr_trans (fr_mono hf_S6 (fun j hj => by simp only [List.mem_cons, List.not_mem_nil, or_false] at hj ⊢; omega)) (fr_mono hf_S7 (fun j hj => by simp only [List.mem_cons, List.not_mem_nil, or_false] at hj ⊢; omega))))
  have hf311 : fr [408, 411, 412, 414] S3 S11 := fr_trans hf37 (fr_mono hf711 (fun j hj => by simp only [List.mem_cons, List.not_mem_nil, or_false] at hj ⊢; omega))
  have hz11 : mSz S11 w fs.length := ⟨upd sz w (nI fs.length), by rw [fr_get hf711 (by decide), fr_get hf_S7 (by decide), fr_get hf_S6 (by decide), fr_get hf_S5 (by decide)]; exact hc_S4, pk_us⟩
  have hz11' : am_get S11 411 = some (iA 2 (upd sz w (nI fs.length))) := by rw [fr_get hf711 (by decide), fr_get hf_S7 (by decide), fr_get hf_S6 (by decide), fr_get hf_S5 (by decide)]; exact hc_S4
  have hm11 : am_get S11 410 = some (iA 1920 mb3) := by rw [fr_get hf311 (by decide)]; exact hm3
  have hh11 : am_get S11 432 = some (iA 60 ch) := by rw [fr_get hf311 (by decide)]; exact hh3
  have hE11 := mEA_fr hE7 hf711 (fun j hj => by simp only [List.mem_cons, List.not_mem_nil, or_false] at hj; omega)
  have hC11 := mCA_fr hC7 hf711 (fun j hj => by simp only [List.mem_cons, List.not_mem_nil, or_false] at hj; omega)
  have hK11 := mSk_fr hK3 hf311 (fun j hj => by simp only [List.mem_cons, List.not_mem_nil, or_false] at hj; omega)
  have hM11 := mTa_fr hM3 hf311 (fun j hj => by simp only [List.mem_cons, List.not_mem_nil, or_false] at hj; omega)
  have hf011 : fr [408, 410, 411, 412, 413, 414, 415, 416, 417, 418, 419, 420, 421, 422, 423, 424, 425, 426, 427, 432] S S11 := fr_trans hf03 (fr_mono hf311 (fun j hj => by simp only [List.mem_cons, List.not_mem_nil, or_false] at hj ⊢; omega))
  have hg03 : gf [0, 2, 19, 23, 24, 25, 26] I I3 := gf_trans (gf_mono hg2 (fun j hj => by simp only [List.mem_cons, List.not_mem_nil, or_false] at hj ⊢; omega)) (gf_mono hg3 (fun j hj => by simp only [List.mem_cons, List.not_mem_nil, or_false] at hj ⊢; omega))
  have i19 : I3 19 = nI w := (hg3 19 (by decide)).trans k19
  have i0 : I3 0 = 0 := (hg3 0 (by decide)).trans k0
  have hEo0 : mEo E (upd E.1 w (nI 0), E.2.1, E.2.2) w := ⟨fun j hj => pk_un hj, fun _ _ => ⟨rfl, rfl⟩⟩
  have hCo0 : mCo C (upd C.1 w (nI 0), C.2) w := ⟨fun j hj => pk_un hj, fun _ _ => rfl⟩
  have hEs0 : mEs (upd E.1 w (nI 0), E.2.1, E.2.2) w [] := ⟨pk_us, fun i y hy => by simp at hy⟩
  have hCs0 : mCs (upd C.1 w (nI 0), C.2) w [] := ⟨pk_us, fun i y hy => by simp at hy⟩
  clear hf_S4 hf_S5 hf_S6 hf_S7 hf_S8 hf_S9 hf_S10 hf_S11 h_S3 h_S4 h_S5 h_S6 h_S7 h_S8 h_S9 h_S10 hc_S4 hc_S6 hc_S7 hE3 hE5 hE6 hE7 hC3 hC5 hC6 hC7 hK3 hM3 hs3 hh3 hm3 hf03 hf37 hf711 hf311
  iterate 4 refine wp_step rfl rfl ?_
  show wp X (d + 10) 112 114 [some (.ref 408), some (.int (nI 0)), some (.int 1), none, none] [] S11 Q
  refine mo_loop (d := d) (opB_lt hfs hB) hw hl 5 0 1 [] [] S11 I3 li K M _ _ (by simp) (by omega) h_S11 ⟨mb3, hm11, hby⟩ i19 i25 hz11 hK11 ⟨fun _ => ⟨i23, i24, by omega, by omega⟩, fun h9 => by cases h9⟩ hM11 hE11 hEs0 (by simp) hC11 hCs0 (by simp) (fun i y hy => by simp at hy) (fun re T J li' K' M' E' C' e1 hf1 hg1 h1 hK1 hV1 hM1 hE1 hEs1 hEo1 hC1 hCs1 hCo1 hTw1 hTs1 h601 h41 z1 z2 => ?_) (fun k pl T J li' K' M' E' C' e1 hf1 hg1 h1 hK1 hM1 hE1 hEo1 hC1 hCo1 hTw1 z1 z2 => ?_)
  · have j25 : J 25 = 0 := (hg1 25 (by decide)).trans i25
    have j26 : J 26 = -1 := (hg1 26 (by decide)).trans i26
    iterate 2 refine wp_step rfl rfl ?_
    refine wp_putg rfl h1 (by decide) rfl rfl ?_
    rw [mkG_i rfl]
    have h_T1 : am_get (am_upd T 408 (moC (upd J 23 (Int32.ofInt 0)) st li')) 408 = some (moC (upd J 23 (Int32.ofInt 0)) st li') := am_get_self h1
    have hf_T1 : fr [408] T (am_upd T 408 (moC (upd J 23 (Int32.ofInt 0)) st li')) := fr_up (by simp)
    generalize am_upd T 408 (moC (upd J 23 (Int32.ofInt 0)) st li') = T1 at h_T1 hf_T1 ⊢
    iterate 2 refine wp_step rfl rfl ?_
    refine wp_getg (v := (.int 0)) rfl h_T1 (by decide) (congrArg Value.int j25) ?_
    refine wp_putg rfl h_T1 (by decide) rfl rfl ?_
    rw [mkG_i rfl]
    have h_T2 : am_get (am_upd T1 408 (moC (upd (upd J 23 (Int32.ofInt 0)) 27 (0)) st li')) 408 = some (moC (upd (upd J 23 (Int32.ofInt 0)) 27 (0)) st li') := am_get_self h_T1
    have hf_T2 : fr [408] T1 (am_upd T1 408 (moC (upd (upd J 23 (Int32.ofInt 0)) 27 (0)) st li')) := fr_up (by simp)
    generalize am_upd T1 408 (moC (upd (upd J 23 (Int32.ofInt 0)) 27 (0)) st li') = T2 at h_T2 hf_T2 ⊢
    iterate 2 refine wp_step rfl rfl ?_
    refine wp_getg (v := (.int (-1))) rfl h_T2 (by decide) (congrArg Value.int j26) ?_
    refine wp_putg rfl h_T2 (by decide) rfl rfl ?_
    rw [mkG_i rfl]
    have h_T3 : am_get (am_upd T2 408 (moC (upd (upd (upd J 23 (Int32.ofInt 0)) 27 (0)) 28 ((-1))) st li')) 408 = some (moC (upd (upd (upd J 23 (Int32.ofInt 0)) 27 (0)) 28 ((-1))) st li') := am_get_self h_T2
    have hf_T3 : fr [408] T2 (am_upd T2 408 (moC (upd (upd (upd J 23 (Int32.ofInt 0)) 27 (0)) 28 ((-1))) st li')) := fr_up (by simp)
    generalize am_upd T2 408 (moC (upd (upd (upd J 23 (Int32.ofInt 0)) 27 (0)) 28 ((-1))) st li') = T3 at h_T3 hf_T3 ⊢
    refine wp_step rfl rfl ?_
    refine wp_getg (v := (.int 0)) rfl h_T3 (by decide) (congrArg Value.int j25) ?_
    refine wp_if_f rfl rfl ?_
    iterate 5 refine wp_step rfl rfl ?_
    refine wp_putg rfl h_T3 (by decide) rfl rfl ?_
    rw [mkG_i rfl]
    have h_T4 : am_get (am_upd T3 408 (moC (upd (upd (upd (upd J 23 (Int32.ofInt 0)) 27 (0)) 28 ((-1))) 25 (Int32.ofInt 0)) st li')) 408 = some (moC (upd (upd (upd (upd J 23 (Int32.ofInt 0)) 27 (0)) 28 ((-1))) 25 (Int32.ofInt 0)) st li') := am_get_self h_T3
    have hf_T4 : fr [408] T3 (am_upd T3 408 (moC (upd (upd (upd (upd J 23 (Int32.ofInt 0)) 27 (0)) 28 ((-1))) 25 (Int32.ofInt 0)) st li')) := fr_up (by simp)
    generalize am_upd T3 408 (moC (upd (upd (upd (upd J 23 (Int32.ofInt 0)) 27 (0)) 28 ((-1))) 25 (Int32.ofInt 0)) st li') = T4 at h_T4 hf_T4 ⊢
    refine wp_step rfl rfl ?_
    refine wp_if_t rfl rfl ?_
    iterate 2 refine wp_step rfl rfl ?_
    refine wp_getg (v := (.int (nI w))) rfl h_T4 (by decide) (congrArg Value.int ((hg1 19 (by decide)).trans i19)) ?_
    refine wp_putg rfl h_T4 (by decide) rfl rfl ?_
    rw [mkG_i rfl]
    have h_T5 : am_get (am_upd T4 408 (moC (upd (upd (upd (upd (upd J 23 (Int32.ofInt 0)) 27 (0)) 28 ((-1))) 25 (Int32.ofInt 0)) 3 (nI w)) st li')) 408 = some (moC (upd (upd (upd (upd (upd J 23 (Int32.ofInt 0)) 27 (0)) 28 ((-1))) 25 (Int32.ofInt 0)) 3 (nI w)) st li') := am_get_self h_T4
    have hf_T5 : fr [408] T4 (am_upd T4 408 (moC (upd (upd (upd (upd (upd J 23 (Int32.ofInt 0)) 27 (0)) 28 ((-1))) 25 (Int32.ofInt 0)) 3 (nI w)) st li')) := fr_up (by simp)
    generalize am_upd T4 408 (moC (upd (upd (upd (upd (upd J 23 (Int32.ofInt 0)) 27 (0)) 28 ((-1))) 25 (Int32.ofInt 0)) 3 (nI w)) st li') = T5 at h_T5 hf_T5 ⊢
    iterate 2 refine wp_step rfl rfl ?_
    refine wp_getg rfl h_T5 (by decide) rfl ?_
    refine wp_step rfl rfl ?_
    refine wp_getg (v := (.int (nI w))) rfl h_T5 (by decide) (congrArg Value.int pk_us) ?_
    have hf15 : fr [408] T T5 := fr_trans hf_T1 (fr_trans hf_T2 (fr_trans hf_T3 (fr_trans hf_T4 hf_T5)))
    have hE5 := mEA_fr hE1 hf15 (fun j hj => by simp only [List.mem_cons, List.not_mem_nil, or_false] at hj; omega)
    refine wp_ald rfl (Or.inl ⟨rfl, rfl⟩) (by decide) hE5.1 (am_in_nI (by omega) (by decide)) ?_
    rw [nI_clamp (by omega)]
    rw [hEs1.1]
    refine wp_putg rfl h_T5 (by decide) rfl rfl ?_
    rw [mkG_i rfl]
    have h_T6 : am_get (am_upd T5 408 (moC (upd (upd (upd (upd (upd (upd J 23 (Int32.ofInt 0)) 27 (0)) 28 ((-1))) 25 (Int32.ofInt 0)) 3 (nI w)) 45 (nI re.2.1.length)) st li')) 408 = some (moC (upd (upd (upd (upd (upd (upd J 23 (Int32.ofInt 0)) 27 (0)) 28 ((-1))) 25 (Int32.ofInt 0)) 3 (nI w)) 45 (nI re.2.1.length)) st li') := am_get_self h_T5
    have hf_T6 : fr [408] T5 (am_upd T5 408 (moC (upd (upd (upd (upd (upd (upd J 23 (Int32.ofInt 0)) 27 (0)) 28 ((-1))) 25 (Int32.ofInt 0)) 3 (nI w)) 45 (nI re.2.1.length)) st li')) := fr_up (by simp)
    generalize am_upd T5 408 (moC (upd (upd (upd (upd (upd (upd J 23 (Int32.ofInt 0)) 27 (0)) 28 ((-1))) 25 (Int32.ofInt 0)) 3 (nI w)) 45 (nI re.2.1.length)) st li') = T6 at h_T6 hf_T6 ⊢
    iterate 2 refine wp_step rfl rfl ?_
    have hf16 : fr [408] T T6 := fr_trans hf15 hf_T6
    have hh6 : am_get T6 432 = some (iA 60 ch) := by rw [fr_get hf16 (by decide), fr_get hf1 (by decide)]; exact hh11
    show wp X (d + 10) 112 226 [some (.ref 408), some (.int z1), some (.int z2), some (.int (Int32.ofInt 1)), some (.int (nI 0))] [] T6 Q
    refine mo_sel h601 pk_us re.2.1.length 0 T6 ch (by omega) h_T6 hh6 (fun j hj => by omega) (fun T7 ch7 hf7 hh7 hch7 zz4 => ?_)
    have h_T7 : am_get T7 408 = some (moC (upd (upd (upd (upd (upd (upd J 23 (Int32.ofInt 0)) 27 (0)) 28 ((-1))) 25 (Int32.ofInt 0)) 3 (nI w)) 45 (nI re.2.1.length)) st li') := by rw [fr_get hf7 (by decide)]; exact h_T6
    iterate 2 refine wp_step rfl rfl ?_
    refine wp_putg rfl h_T7 (by decide) rfl rfl ?_
    rw [mkG_i rfl]
    have h_T8 : am_get (am_upd T7 408 (moC (upd (upd (upd (upd (upd (upd (upd J 23 (Int32.ofInt 0)) 27 (0)) 28 ((-1))) 25 (Int32.ofInt 0)) 3 (nI w)) 45 (nI re.2.1.length)) 49 (Int32.ofInt 0)) st li')) 408 = some (moC (upd (upd (upd (upd (upd (upd (upd J 23 (Int32.ofInt 0)) 27 (0)) 28 ((-1))) 25 (Int32.ofInt 0)) 3 (nI w)) 45 (nI re.2.1.length)) 49 (Int32.ofInt 0)) st li') := am_get_self h_T7
    have hf_T8 : fr [408] T7 (am_upd T7 408 (moC (upd (upd (upd (upd (upd (upd (upd J 23 (Int32.ofInt 0)) 27 (0)) 28 ((-1))) 25 (Int32.ofInt 0)) 3 (nI w)) 45 (nI re.2.1.length)) 49 (Int32.ofInt 0)) st li')) := fr_up (by simp)
    generalize am_upd T7 408 (moC (upd (upd (upd (upd (upd (upd (upd J 23 (Int32.ofInt 0)) 27 (0)) 28 ((-1))) 25 (Int32.ofInt 0)) 3 (nI w)) 45 (nI re.2.1.length)) 49 (Int32.ofInt 0)) st li') = T8 at h_T8 hf_T8 ⊢
    have hf78 : fr [408, 432] T6 T8 := fr_trans (fr_mono hf7 (fun j hj => by simp only [List.mem_cons, List.not_mem_nil, or_false] at hj ⊢; omega)) (fr_mono hf_T8 (fun j hj => by simp only [List.mem_cons, List.not_mem_nil, or_false] at hj ⊢; omega))
    have hf18 : fr [408, 432] T T8 := fr_trans (fr_mono hf16 (fun j hj => by simp only [List.mem_cons, List.not_mem_nil, or_false] at hj ⊢; omega)) hf78
    have hE8 := mEA_fr hE1 hf18 (fun j hj => by simp only [List.mem_cons, List.not_mem_nil, or_false] at hj; omega)
    refine wp_step rfl rfl ?_
    refine wp_getg rfl h_T8 (by decide) rfl ?_
    refine wp_step rfl rfl ?_
    refine wp_getg (v := (.int (nI w))) rfl h_T8 (by decide) (congrArg Value.int ((pk_un (by decide)).trans ((pk_un (by decide)).trans pk_us))) ?_
    refine wp_ald rfl (Or.inl ⟨rfl, rfl⟩) (by decide) hE8.1 (am_in_nI (by omega) (by decide)) ?_
    rw [nI_clamp (by omega)]
    rw [hEs1.1]
    refine wp_iret rfl rfl rfl ?_
    refine hret re T8 _ li' K' M' E' C' mb3 ch7 e1 (fr_trans hf011 (fr_trans (fr_mono hf1 (fun j hj => by simp only [List.mem_cons, List.not_mem_nil, or_false] at hj ⊢; omega)) (fr_mono hf18 (fun j hj => by simp only [List.mem_cons, List.not_mem_nil, or_false] at hj ⊢; omega)))) (gf_up (gf_up (gf_up (gf_up (gf_up (gf_up (gf_up (gf_trans (gf_mono hg03 (fun j hj => by simp only [List.mem_cons, List.not_mem_nil, or_false] at hj ⊢; omega)) (gf_mono hg1 (fun j hj => by simp only [List.mem_cons, List.not_mem_nil, or_false] at hj ⊢; omega))) (by simp)) (by simp)) (by simp)) (by simp)) (by simp)) (by simp)) (by simp)) h_T8 ?_ ?_ ?_ ?_ ?_ ?_ ?_ ?_ pk_us (mSk_fr hK1 hf18 (fun j hj => by simp only [List.mem_cons, List.not_mem_nil, or_false] at hj; omega)) (mTa_fr hM1 hf18 (fun j hj => by simp only [List.mem_cons, List.not_mem_nil, or_false] at hj; omega)) hE8 hEs1 (mEo_trans hEo0 hEo1) (mCA_fr hC1 hf18 (fun j hj => by simp only [List.mem_cons, List.not_mem_nil, or_false] at hj; omega)) hCs1 (mCo_trans hCo0 hCo1) hTw1 hTs1 h601 h41 ?_ hby hoth ?_ ?_ hch7
    · exact (pk_un (by decide)).trans ((pk_un (by decide)).trans ((pk_un (by decide)).trans ((pk_un (by decide)).trans ((pk_un (by decide)).trans ((pk_un (by decide)).trans ((pk_un (by decide)).trans ((hg1 0 (by decide)).trans i0)))))))
    · exact (pk_un (by decide)).trans ((pk_un (by decide)).trans ((pk_un (by decide)).trans ((pk_un (by decide)).trans ((pk_un (by decide)).trans ((pk_un (by decide)).trans ((pk_un (by decide)).trans ((hg1 2 (by decide)).trans i2)))))))
    · exact (pk_un (by decide)).trans ((pk_un (by decide)).trans pk_us)
    · exact (pk_un (by decide)).trans ((pk_un (by decide)).trans ((pk_un (by decide)).trans ((pk_un (by decide)).trans ((pk_un (by decide)).trans ((pk_un (by decide)).trans pk_us)))))
    · exact (pk_un (by decide)).trans ((pk_un (by decide)).trans ((pk_un (by decide)).trans pk_us))
    · exact (pk_un (by decide)).trans ((pk_un (by decide)).trans ((pk_un (by decide)).trans ((pk_un (by decide)).trans ((pk_un (by decide)).trans pk_us))))
    · exact (pk_un (by decide)).trans ((pk_un (by decide)).trans ((pk_un (by decide)).trans ((pk_un (by decide)).trans pk_us)))
    · exact (pk_un (by decide)).trans pk_us
    · rw [fr_get hf18 (by decide), fr_get hf1 (by decide)]; exact hm11
    · rw [fr_get hf18 (by decide), fr_get hf1 (by decide)]; exact hz11'
    · rw [fr_get hf_T8 (by decide)]; exact hh7
  · iterate 2 refine wp_step rfl rfl ?_
    refine wp_putg rfl h1.1 (by decide) rfl rfl ?_
    rw [mkG_i rfl]
    have h_T1 : am_get (am_upd T 408 (moC (upd J 23 (Int32.ofInt 0)) st li')) 408 = some (moC (upd J 23 (Int32.ofInt 0)) st li') := am_get_self h1.1
    have hf_T1 : fr [408] T (am_upd T 408 (moC (upd J 23 (Int32.ofInt 0)) st li')) := fr_up (by simp)
    generalize am_upd T 408 (moC (upd J 23 (Int32.ofInt 0)) st li') = T1 at h_T1 hf_T1 ⊢
    iterate 2 refine wp_step rfl rfl ?_
    refine wp_getg (v := (.int k)) rfl h_T1 (by decide) (congrArg Value.int h1.2.1) ?_
    refine wp_putg rfl h_T1 (by decide) rfl rfl ?_
    rw [mkG_i rfl]
    have h_T2 : am_get (am_upd T1 408 (moC (upd (upd J 23 (Int32.ofInt 0)) 27 (k)) st li')) 408 = some (moC (upd (upd J 23 (Int32.ofInt 0)) 27 (k)) st li') := am_get_self h_T1
    have hf_T2 : fr [408] T1 (am_upd T1 408 (moC (upd (upd J 23 (Int32.ofInt 0)) 27 (k)) st li')) := fr_up (by simp)
    generalize am_upd T1 408 (moC (upd (upd J 23 (Int32.ofInt 0)) 27 (k)) st li') = T2 at h_T2 hf_T2 ⊢
    iterate 2 refine wp_step rfl rfl ?_
    refine wp_getg (v := (.int (nI pl))) rfl h_T2 (by decide) (congrArg Value.int h1.2.2.2) ?_
    refine wp_putg rfl h_T2 (by decide) rfl rfl ?_
    rw [mkG_i rfl]
    have h_T3 : am_get (am_upd T2 408 (moC (upd (upd (upd J 23 (Int32.ofInt 0)) 27 (k)) 28 ((nI pl))) st li')) 408 = some (moC (upd (upd (upd J 23 (Int32.ofInt 0)) 27 (k)) 28 ((nI pl))) st li') := am_get_self h_T2
    have hf_T3 : fr [408] T2 (am_upd T2 408 (moC (upd (upd (upd J 23 (Int32.ofInt 0)) 27 (k)) 28 ((nI pl))) st li')) := fr_up (by simp)
    generalize am_upd T2 408 (moC (upd (upd (upd J 23 (Int32.ofInt 0)) 27 (k)) 28 ((nI pl))) st li') = T3 at h_T3 hf_T3 ⊢
    refine wp_step rfl rfl ?_
    refine wp_getg (v := (.int k)) rfl h_T3 (by decide) (congrArg Value.int h1.2.1) ?_
    refine wp_if_t rfl (c1_ne0 h1.2.2.1) ?_
    iterate 4 refine wp_step rfl rfl ?_
    refine wp_putg rfl h_T3 (by decide) rfl rfl ?_
    rw [mkG_i rfl]
    have h_T4 : am_get (am_upd T3 408 (moC (upd (upd (upd (upd J 23 (Int32.ofInt 0)) 27 (k)) 28 ((nI pl))) 25 (Int32.ofInt 0)) st li')) 408 = some (moC (upd (upd (upd (upd J 23 (Int32.ofInt 0)) 27 (k)) 28 ((nI pl))) 25 (Int32.ofInt 0)) st li') := am_get_self h_T3
    have hf_T4 : fr [408] T3 (am_upd T3 408 (moC (upd (upd (upd (upd J 23 (Int32.ofInt 0)) 27 (k)) 28 ((nI pl))) 25 (Int32.ofInt 0)) st li')) := fr_up (by simp)
    generalize am_upd T3 408 (moC (upd (upd (upd (upd J 23 (Int32.ofInt 0)) 27 (k)) 28 ((nI pl))) 25 (Int32.ofInt 0)) st li') = T4 at h_T4 hf_T4 ⊢
    refine wp_step rfl rfl ?_
    refine wp_if_f rfl rfl ?_
    iterate 2 refine wp_step rfl rfl ?_
    refine wp_c0 rfl rfl (by decide) rfl (recv_ok h_T4 rfl) rfl ?_
    refine ev_wp (L0 := [some (.ref 408), some (.int (Int32.ofInt 1))]) (Nat.le_of_ble_eq_true rfl) rfl ?_
    iterate 2 refine wp_step rfl rfl ?_
    refine wp_putg rfl h_T4 (by decide) rfl rfl ?_
    rw [mkG_i rfl]
    have h_T5 : am_get (am_upd T4 408 (moC (upd (upd (upd (upd (upd J 23 (Int32.ofInt 0)) 27 (k)) 28 ((nI pl))) 25 (Int32.ofInt 0)) 0 (Int32.ofInt 1)) st li')) 408 = some (moC (upd (upd (upd (upd (upd J 23 (Int32.ofInt 0)) 27 (k)) 28 ((nI pl))) 25 (Int32.ofInt 0)) 0 (Int32.ofInt 1)) st li') := am_get_self h_T4
    have hf_T5 : fr [408] T4 (am_upd T4 408 (moC (upd (upd (upd (upd (upd J 23 (Int32.ofInt 0)) 27 (k)) 28 ((nI pl))) 25 (Int32.ofInt 0)) 0 (Int32.ofInt 1)) st li')) := fr_up (by simp)
    generalize am_upd T4 408 (moC (upd (upd (upd (upd (upd J 23 (Int32.ofInt 0)) 27 (k)) 28 ((nI pl))) 25 (Int32.ofInt 0)) 0 (Int32.ofInt 1)) st li') = T5 at h_T5 hf_T5 ⊢
    refine wp_step rfl rfl ?_
    refine wp_iret rfl rfl rfl ?_
    have hf15 : fr [408] T T5 := fr_trans hf_T1 (fr_trans hf_T2 (fr_trans hf_T3 (fr_trans hf_T4 hf_T5)))
    show wp X (d + 10) 112 201 _ [.int (Int32.ofInt 0)] T5 Q
    refine wp_iret rfl rfl rfl ?_
    refine hbad k pl T5 _ li' K' M' E' C' mb3 e1 (fr_trans hf011 (fr_trans (fr_mono hf1 (fun j hj => by simp only [List.mem_cons, List.not_mem_nil, or_false] at hj ⊢; omega)) (fr_mono hf15 (fun j hj => by simp only [List.mem_cons, List.not_mem_nil, or_false] at hj ⊢; omega)))) (gf_up (gf_up (gf_up (gf_up (gf_up (gf_trans (gf_mono hg03 (fun j hj => by simp only [List.mem_cons, List.not_mem_nil, or_false] at hj ⊢; omega)) (gf_mono hg1 (fun j hj => by simp only [List.mem_cons, List.not_mem_nil, or_false] at hj ⊢; omega))) (by simp)) (by simp)) (by simp)) (by simp)) (by simp)) h_T5 pk_us ?_ ?_ ?_ ?_ ?_ (mSk_fr hK1 hf15 (fun j hj => by simp only [List.mem_cons, List.not_mem_nil, or_false] at hj; omega)) (mTa_fr hM1 hf15 (fun j hj => by simp only [List.mem_cons, List.not_mem_nil, or_false] at hj; omega)) (mEA_fr hE1 hf15 (fun j hj => by simp only [List.mem_cons, List.not_mem_nil, or_false] at hj; omega)) (mEo_trans hEo0 hEo1) (mCA_fr hC1 hf15 (fun j hj => by simp only [List.mem_cons, List.not_mem_nil, or_false] at hj; omega)) (mCo_trans hCo0 hCo1) hTw1 ?_ hby hoth ?_ ?_
    · exact (pk_un (by decide)).trans ((pk_un (by decide)).trans ((pk_un (by decide)).trans ((pk_un (by decide)).trans ((pk_un (by decide)).trans ((hg1 2 (by decide)).trans i2)))))
    · exact (pk_un (by decide)).trans ((pk_un (by decide)).trans ((pk_un (by decide)).trans ((pk_un (by decide)).trans pk_us)))
    · exact (pk_un (by decide)).trans pk_us
    · exact (pk_un (by decide)).trans ((pk_un (by decide)).trans ((pk_un (by decide)).trans pk_us))
    · exact (pk_un (by decide)).trans ((pk_un (by decide)).trans pk_us)
    · rw [fr_get hf15 (by decide), fr_get hf1 (by decide)]; exact hm11
    · rw [fr_get hf15 (by decide), fr_get hf1 (by decide)]; exact hz11'
    · rw [fr_get hf15 (by decide), fr_get hf1 (by decide)]; exact hh11
end MOPEN2
