/-! THE MODEL: pass; how deep values are -/
theorem tix_ten {τ : jTT} (hw : wfT τ) {ty t : Nat} (h : tix τ ty = some t) : 16 ≤ ty := by
  obtain ⟨x, e1, e2, _⟩ := tix_some h
  have := (wf_ty hw e1).1
  unfold tyOK at this
  omega
theorem sf_plain {τ : jTT} (hw : wfT τ) {ty : Nat} (hty : ty ≤ 10) : ∀ (h fl : Nat), 2 ≤ h → sf τ h ty fl := by
  have one : ∀ h fl, fl < 2 → 1 ≤ h → sf τ h ty fl := by
    intro h fl hf hh
    obtain ⟨k, rfl⟩ : ∃ k, h = k + 1 := ⟨h - 1, by omega⟩
    exact ⟨fun h9 => by omega, fun _ t x ht => by have := tix_ten hw ht; omega⟩
  intro h fl hh
  obtain ⟨k, rfl⟩ : ∃ k, h = k + 1 := ⟨h - 1, by omega⟩
  exact ⟨fun _ => one k _ (by omega) (by omega), fun _ t x ht => by have := tix_ten hw ht; omega⟩
theorem sf_key {τ : jTT} {ty h : Nat} (hh : 1 ≤ h) : sf τ h ty 1 := by
  obtain ⟨k, rfl⟩ : ∃ k, h = k + 1 := ⟨h - 1, by omega⟩
  exact ⟨fun h9 => by omega, fun h9 => by omega⟩
theorem sf_rk {τ : jTT} (hw : wfT τ) (hfh : fht τ) {rk : Nat → Nat} (hr : ∀ t u, edge τ t u → rk u < rk t) : ∀ (r h ty t : Nat), rk t ≤ r → 2 * r + 3 ≤ h → tix τ ty = some t → sf τ h ty 0 := by
  intro r
  induction r with
  | zero =>
    intro h ty t hrt hh ht
    obtain ⟨k, rfl⟩ : ∃ k, h = k + 1 := ⟨h - 1, by omega⟩
    refine ⟨fun h9 => by omega, fun _ t' x ht' hx y hy => ?_⟩
    rw [ht] at ht'; cases ht'
    obtain ⟨f, hf⟩ := List.getElem?_of_mem hy
    rcases hfh t x f y hx hf with g | ⟨u, z, g1, g2, _⟩
    · exact sf_plain hw g.2 _ _ (by omega)
    · have hyo := (wf_fd hw hx hf).1
      unfold fdOK at hyo
      by_cases e : y.2.2 % 2 = 0
      · have := hr t u ⟨x, f, y, hx, hf, e, g1⟩; omega
      · have h13 : y.2.2 = 1 ∨ y.2.2 = 3 := by omega
        rcases h13 with h1 | h3
        · rw [h1]; exact sf_key (by omega)
        · rw [h3]
          obtain ⟨k2, rfl⟩ : ∃ k2, k = k2 + 1 := ⟨k - 1, by omega⟩
          exact ⟨fun _ => sf_key (by omega), fun h9 => by omega⟩
  | succ r ih =>
    intro h ty t hrt hh ht
    obtain ⟨k, rfl⟩ : ∃ k, h = k + 1 := ⟨h - 1, by omega⟩
    refine ⟨fun h9 => by omega, fun _ t' x ht' hx y hy => ?_⟩
    rw [ht] at ht'; cases ht'
    obtain ⟨f, hf⟩ := List.getElem?_of_mem hy
    rcases hfh t x f y hx hf with g | ⟨u, z, g1, g2, _⟩
    · exact sf_plain hw g.2 _ _ (by omega)
    · have hyo := (wf_fd hw hx hf).1
      unfold fdOK at hyo
      by_cases e : y.2.2 % 2 = 0
      · have hlt := hr t u ⟨x, f, y, hx, hf, e, g1⟩
        have h02 : y.2.2 = 0 ∨ y.2.2 = 2 := by omega
        rcases h02 with h0 | h2
        · rw [h0]; exact ih k _ u (by omega) (by omega) g1
        · rw [h2]
          obtain ⟨k2, rfl⟩ : ∃ k2, k = k2 + 1 := ⟨k - 1, by omega⟩
          exact ⟨fun _ => ih k2 _ u (by omega) (by omega) g1, fun h9 => by omega⟩
      · have h13 : y.2.2 = 1 ∨ y.2.2 = 3 := by omega
        rcases h13 with h1 | h3
        · rw [h1]; exact sf_key (by omega)
        · rw [h3]
          obtain ⟨k2, rfl⟩ : ∃ k2, k = k2 + 1 := ⟨k - 1, by omega⟩
          exact ⟨fun _ => sf_key (by omega), fun h9 => by omega⟩
theorem sf_up {τ : jTT} : ∀ (h ty fl : Nat), sf τ h ty fl → sf τ (h + 1) ty fl := by
  intro h
  induction h with
  | zero => intro ty fl h; exact h.elim
  | succ h ih =>
    intro ty fl hs
    exact ⟨fun h9 => ih _ _ (hs.1 h9), fun h9 t x ht hx y hy => ih _ _ (hs.2 h9 t x ht hx y hy)⟩
theorem sf_struct {τ : jTT} (hw : wfT τ) (hfh : fht τ) (hn : nocyc τ) {ty t : Nat} (ht : tix τ ty = some t) : sf τ 21 ty 0 := by
  obtain ⟨rk, h1, h2⟩ := hn
  exact sf_rk hw hfh h2 9 21 ty t (h1 t) (by omega) ht
theorem sf_ty {τ : jTT} (hw : wfT τ) (hfh : fht τ) (hn : nocyc τ) {ty fl : Nat} (hk : knM τ ty) (hf : fl ≤ 1) : sf τ 21 ty fl := by
  rcases hk with h | ⟨_, _, t, x, ht, _⟩
  · exact sf_plain hw h.2 _ _ (by omega)
  · have h01 : fl = 0 ∨ fl = 1 := by omega
    rcases h01 with h0 | h1
    · rw [h0]; exact sf_struct hw hfh hn ht
    · rw [h1]; exact sf_key (by omega)
theorem sf_fd {τ : jTT} (hw : wfT τ) (hfh : fht τ) (hn : nocyc τ) {ty t : Nat} {x : jTy} {y : jFd} (ht : tix τ ty = some t) (hx : τ[t]? = some x) (hy : y ∈ x.2.2.2) : sf τ 21 y.2.1 y.2.2 :=
  sf_up _ _ _ ((sf_struct hw hfh hn ht).2 rfl t x ht hx y hy)
theorem knM_fd {τ : jTT} (hw : wfT τ) (hfh : fht τ) {t f : Nat} {x : jTy} {y : jFd} (hx : τ[t]? = some x) (hf : x.2.2.2[f]? = some y) : knM τ y.2.1 := by
  rcases hfh t x f y hx hf with g | ⟨u, z, g1, g2, g3, _⟩
  · exact Or.inl g
  · have h16 := tix_ten hw g1
    obtain ⟨z', m1, m2, _⟩ := tix_some g1
    have := (wf_ty hw m1).1
    unfold tyOK at this
    exact Or.inr ⟨by omega, by omega, u, z, g1, g2, g3⟩
section MPASS3
variable {X : Nat × (Nat → Int32)} {d : Nat} {Q : am_R → Prop} {st li : Int64} {b : Nat → Nat} {w lim sl : Nat} {τ : jTT} {M : jMT} {chk : Bool}
theorem fin_0 {T : am_S} {J : Nat → Int32} (h : am_get T 408 = some (moC J st li)) (h29 : J 29 = nI 0) (hq : Q (.inl none, T)) : FIN X d Q T := by
  intro y1 y2 y3
  refine wp_step rfl rfl ?_
  refine wp_getg (v := (.int (nI 0))) rfl h (by decide) (congrArg Value.int h29) ?_
  refine wp_if_t rfl rfl ?_
  refine wp_vret rfl rfl hq
theorem fin_x {T : am_S} {J : Nat → Int32} {k : Int32} {pl : Nat} (h : mX T J st li k pl) (h29 : ∃ q, J 29 = nI q ∧ q < 2 ^ 31) (hq : Q (.inl none, T)) : FIN X d Q T := by
  intro y1 y2 y3
  obtain ⟨q, hq1, hq2⟩ := h29
  refine wp_step rfl rfl ?_
  refine wp_getg (v := (.int (nI q))) rfl h.1 (by decide) (congrArg Value.int hq1) ?_
  refine wp_if rfl (fun c0 => ?_) (fun c0 => ?_)
  · refine wp_vret rfl rfl hq
  · refine wp_step rfl rfl ?_
    refine wp_getg (v := (.int k)) rfl h.1 (by decide) (congrArg Value.int h.2.1) ?_
    refine wp_if_t rfl (c1_ne0 h.2.2.1) ?_
    refine wp_vret rfl rfl hq
theorem q_mpass {S : am_S} {I : Nat → Int32} {K : jMK} {ty fl p n : Nat} (hb : ∀ j, b j < 256) (hwf : wfT τ) (hfh : fht τ) (hT : mTy M sl τ) (hsl : sl < 8) (hkn : knM τ ty) (hfl : fl ≤ 3) (hsf : sf τ 21 ty fl) (h : mR S I st li b w p lim) (hK : mSk S K) (hV : mV I chk n) (h20 : I 20 = nI sl) (hM : mTa S M)
    (hret : ∀ p' n' T J K', rv τ b chk lim 21 ty fl p n = .inr (p', n') → fr [408, 425, 426, 427] S T → gf [21, 24, 29] I J → mR T J st li b w p' lim → mSk T K' → mV J chk n' → Q (.inl none, T))
    (hbad : ∀ k pl T J K', rv τ b chk lim 21 ty fl p n = .inl (k, pl) → fr [408, 425, 426, 427] S T → gf [21, 24, 25, 26, 29] I J → mX T J st li k pl → mSk T K' → (∃ q, J 21 = nI q) → Q (.inl none, T)) : ev X (d + 8) 108 [.ref 408, .long (lN ty), .int (nI fl)] S Q := by
  refine ev_wp (L0 := [some (.ref 408), some (.long (lN ty)), none, some (.int (nI fl))]) (Nat.le_of_ble_eq_true rfl) rfl ?_
  iterate 2 refine wp_step rfl rfl ?_
  refine wp_putg rfl h.1 (by decide) rfl rfl ?_
  rw [mkG_i rfl]
  have h1 : mR (am_upd S 408 (moC (upd I 29 (Int32.ofInt 0)) st li)) (upd I 29 (Int32.ofInt 0)) st li b w p lim := ⟨am_get_self h.1, mBy_fr h.2.1 (fr_up (js := [408]) (by simp)) (by decide), (pk_un (by decide)).trans h.2.2.1, (pk_un (by decide)).trans h.2.2.2.1, (pk_un (by decide)).trans h.2.2.2.2.1, (pk_un (by decide)).trans h.2.2.2.2.2.1, h.2.2.2.2.2.2⟩
  have hf1 : fr [408] S (am_upd S 408 (moC (upd I 29 (Int32.ofInt 0)) st li)) := fr_up (by simp)
  have hg1 : gf [29] I (upd I 29 (Int32.ofInt 0)) := gf_up (gf_refl _ _) (by simp)
  have h29 : (upd I 29 (Int32.ofInt 0)) 29 = nI 0 := pk_us
  generalize am_upd S 408 (moC (upd I 29 (Int32.ofInt 0)) st li) = S1 at h1 hf1 ⊢
  generalize upd I 29 (Int32.ofInt 0) = I1 at h1 hg1 h29
  have hf1J : fr [408, 425, 426, 427] S S1 := fr_mono hf1 (fun j hj => by simp only [List.mem_cons, List.not_mem_nil, or_false] at hj ⊢; omega)
  iterate 3 refine wp_step rfl rfl ?_
  refine wp_c0 rfl rfl (by decide) rfl (recv_ok h1.1 rfl) rfl (ev_conv (ev_up (by omega) (BF_all (d := d) hb hwf hfh hT hsl 21 ty fl p n 0 K S1 I1 (aft X (d + 7) 108 12 [some (.ref 408), some (.long (lN ty)), none, some (.int (nI fl))] [] Q) hkn hfl hsf (by omega) h1 h29 (mSk_fr hK hf1 (fun j hj => by simp only [List.mem_cons, List.not_mem_nil, or_false] at hj; omega)) (mV_gf hV hg1 (by decide) (by decide)) ((hg1 20 (by decide)).trans h20) (mTa_fr hM hf1 (fun j hj => by simp only [List.mem_cons, List.not_mem_nil, or_false] at hj; omega)) (fun p' n' T J K' e1 hf2 hg2 h2 h292 hK2 ha2 hV2 => ?_) (fun k pl T J K' e1 hf2 hg2 h2 hK2 hq2 hq3 => ?_))) (fun r hr => ?_))
  · refine fin_0 h2.1 h292 ?_
    show wp X (d + 7) 108 15 [some (.ref 408), some (.long (lN ty)), none, some (.int (nI fl))] [] T Q
    exact wp_vret rfl rfl (hret p' n' T J K' e1 (fr_trans hf1J hf2) (gf_trans (gf_mono hg1 (fun j hj => by simp only [List.mem_cons, List.not_mem_nil, or_false] at hj ⊢; omega)) hg2) h2 hK2 hV2)
  · refine fin_x h2 hq3 ?_
    show wp X (d + 7) 108 15 [some (.ref 408), some (.long (lN ty)), none, some (.int (nI fl))] [] T Q
    exact wp_vret rfl rfl (hbad k pl T J K' e1 (fr_trans hf1J hf2) (gf_trans (gf_mono hg1 (fun j hj => by simp only [List.mem_cons, List.not_mem_nil, or_false] at hj ⊢; omega)) hg2) h2 hK2 hq2)
  · obtain ⟨T, rfl, ⟨J9, st9, li9, hT9⟩, hF⟩ := hr
    show wp X (d + 7) 108 11 [some (.ref 408), some (.long (lN ty)), none, some (.int (nI fl))] [] T Q
    refine wp_step rfl rfl ?_
    refine wp_c0 rfl rfl (by decide) rfl (recv_ok hT9 rfl) rfl ?_
    exact ev_wp (L0 := [some (.ref 408), none, none, none]) (Nat.le_of_ble_eq_true rfl) rfl (hF none none none)
end MPASS3
