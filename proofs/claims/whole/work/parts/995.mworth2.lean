/-! THE MODEL: worth -/
/-- what a spot is worth -/
def wrV (τ : jTT) (b : Nat → Nat) (tot : Nat) : Option jV → Int64
  | none => 0
  | some w => wrOf τ b tot w
theorem rdb_pl {τ : jTT} {b : Nat → Nat} {tot ty p : Nat} (h : rdb τ b tot (ty, 0, p)) (h10 : ty < 10) : ∃ x p1, rdP b tot ty p = some (x, p1) := by
  obtain ⟨p', h⟩ := h
  obtain ⟨m', h⟩ := h 0
  dsimp only at h
  unfold rv at h
  rw [if_neg (by simp), if_neg (by decide), if_neg (by decide), if_neg (by omega), if_pos h10] at h
  cases e : rdP b tot ty p with
  | none => rw [e] at h; cases h
  | some x => exact ⟨x.1, x.2, rfl⟩
section MWORTH2
variable {X : Nat × (Nat → Int32)} {d : Nat} {Q : am_R → Prop} {b : Nat → Nat} {v tot ci : Nat} {re : jRe} {M : jMT} {E : jME} {C : jMC} {ck : jCk}
theorem wt_12 {S : am_S} {I : Nat → Int32} {st li : Int64} {K : jMK} {p : Nat} (hb : ∀ j, b j < 256) (h : lkS S I st li b v tot re M E C K ci ck) (hw : mWk S I st li b v p tot (4 * v + ci) M K) (h36 : I 36 = nI 12) {len p1 : Nat} (ec : cnt (Bn b) tot p = some (len, p1)) (hq : ∀ T J, fr [408] S T → gf [21, 22] I J → lkS T J st li b v tot re M E C K ci ck → Q (.inl (some (.long (lN len))), T)) : wp X (d + 4) 139 21 [some (.ref 408), none, none] [] S Q := by
  obtain ⟨hci, hv, htot, hT, hmck, hC⟩ := lkS_sl h
  refine wp_step rfl rfl ?_
  refine wp_getg (v := (.int (nI 12))) rfl h.1.1 (by decide) (congrArg Value.int h36) ?_
  refine wp_step rfl rfl ?_
  refine wp_icmp_f rfl rfl ?_
  refine wp_step rfl rfl ?_
  refine wp_c0 rfl rfl (by decide) rfl (recv_ok h.1.1 rfl) rfl (q_wsmall hb hw ec (fun T J hf1 hg1 h1 => ?_))
  have hcl := cnt_lt ec
  refine wp_step rfl rfl ?_
  rw [nI_l hcl.1]
  refine wp_lret rfl rfl (hq T J (hf1) (gf_mono hg1 (fun j hj => by simp only [List.mem_cons, List.not_mem_nil, or_false] at hj ⊢; omega)) (lkS_of h hf1 (fun j hj => by simp only [List.mem_cons, List.not_mem_nil, or_false] at hj; omega) hg1 h1 (by decide) (by decide) (by decide) (by decide) (by decide)))
theorem wt_11 {S : am_S} {I : Nat → Int32} {st li : Int64} {K : jMK} {p : Nat} (hb : ∀ j, b j < 256) (h : lkS S I st li b v tot re M E C K ci ck) (hw : mWk S I st li b v p tot (4 * v + ci) M K) (h36 : I 36 = nI 11) {ty t : Nat} {x : jTy} (hst : st = lN ty) (hty : ty < 2 ^ 31) (ht : tix ck.2.2.1 ty = some t) (hx : ck.2.2.1[t]? = some x) (hq : ∀ T J, fr [408] S T → gf [21, 22] I J → lkS T J st li b v tot re M E C K ci ck → Q (.inl (some (.long (lN x.2.1))), T)) : wp X (d + 4) 139 21 [some (.ref 408), none, none] [] S Q := by
  obtain ⟨hci, hv, htot, hT, hmck, hC⟩ := lkS_sl h
  refine wp_step rfl rfl ?_
  refine wp_getg (v := (.int (nI 11))) rfl h.1.1 (by decide) (congrArg Value.int h36) ?_
  refine wp_step rfl rfl ?_
  refine wp_icmp_t rfl rfl ?_
  refine wp_step rfl rfl ?_
  refine wp_getg (v := (.int (nI 11))) rfl h.1.1 (by decide) (congrArg Value.int h36) ?_
  refine wp_step rfl rfl ?_
  refine wp_icmp_f rfl rfl ?_
  obtain ⟨x9, hx9, hx1, hxl⟩ := tix_some ht
  rw [hx] at hx9
  cases hx9
  have hok := (wf_ty hmck.1 hx).1
  unfold tyOK at hok
  obtain ⟨_, hnm, _, _⟩ := hT.2 t x hx
  have hs80 : 10 * (4 * v + ci) + t < 80 := by have := hmck.1.1; omega
  subst hst
  refine wp_step rfl rfl ?_
  refine wp_getg rfl h.1.1 (by decide) rfl ?_
  refine wp_step rfl rfl ?_
  refine wp_c0 rfl rfl (by decide) rfl (recv_ok h.1.1 rfl) rfl (q_mspot h hty ht ?_)
  refine wp_ald rfl (Or.inl ⟨rfl, rfl⟩) (by decide) h.1.2.2.2.2.2.2.2.2.1.2.2.1 (am_in_nI (by omega) (by decide)) ?_
  rw [nI_clamp (by omega)]
  rw [hnm]
  refine wp_step rfl rfl ?_
  rw [nI_l (by omega)]
  refine wp_lret rfl rfl (hq S I (fr_refl _ _) (gf_refl _ _) h)
theorem wt_10 {S : am_S} {I : Nat → Int32} {st li : Int64} {K : jMK} {p : Nat} (hb : ∀ j, b j < 256) (h : lkS S I st li b v tot re M E C K ci ck) (hw : mWk S I st li b v p tot (4 * v + ci) M K) (h36 : I 36 = nI 10) {pe : Nat} {ls : List Nat} (h33 : I 33 = nI p) (hX : rdX b tot p = .inr (.inr (.inr ls), pe)) (hls : ls.length ≤ 960) (hq : ∀ T J, fr [408] S T → gf [21, 22] I J → lkS T J st li b v tot re M E C K ci ck → Q (.inl (some (.long (lN ls.length))), T)) : wp X (d + 4) 139 21 [some (.ref 408), none, none] [] S Q := by
  obtain ⟨hci, hv, htot, hT, hmck, hC⟩ := lkS_sl h
  refine wp_step rfl rfl ?_
  refine wp_getg (v := (.int (nI 10))) rfl h.1.1 (by decide) (congrArg Value.int h36) ?_
  refine wp_step rfl rfl ?_
  refine wp_icmp_t rfl rfl ?_
  refine wp_step rfl rfl ?_
  refine wp_getg (v := (.int (nI 10))) rfl h.1.1 (by decide) (congrArg Value.int h36) ?_
  refine wp_step rfl rfl ?_
  refine wp_icmp_t rfl rfl ?_
  refine wp_step rfl rfl ?_
  refine wp_getg (v := (.int (nI 10))) rfl h.1.1 (by decide) (congrArg Value.int h36) ?_
  refine wp_step rfl rfl ?_
  refine wp_icmp_f rfl rfl ?_
  iterate 2 refine wp_step rfl rfl ?_
  refine wp_c0 rfl rfl (by decide) rfl (recv_ok h.1.1 rfl) rfl (q_mcharAt hb h h33 hX (fun T J hf1 hg1 hl1 => ?_))
  rw [caR_m1 ls 0 (by omega), Nat.zero_add]
  refine wp_step rfl rfl ?_
  rw [nI_l (by omega)]
  refine wp_lret rfl rfl (hq T J hf1 hg1 hl1)
theorem wt_1 {S : am_S} {I : Nat → Int32} {st li : Int64} {K : jMK} {p : Nat} (hb : ∀ j, b j < 256) (h : lkS S I st li b v tot re M E C K ci ck) (hw : mWk S I st li b v p tot (4 * v + ci) M K) (h36 : I 36 = nI 1)  (hq : ∀ T J, fr [408] S T → gf [21, 22] I J → lkS T J st li b v tot re M E C K ci ck → Q (.inl (some (.long (0))), T)) : wp X (d + 4) 139 21 [some (.ref 408), none, none] [] S Q := by
  obtain ⟨hci, hv, htot, hT, hmck, hC⟩ := lkS_sl h
  refine wp_step rfl rfl ?_
  refine wp_getg (v := (.int (nI 1))) rfl h.1.1 (by decide) (congrArg Value.int h36) ?_
  refine wp_step rfl rfl ?_
  refine wp_icmp_t rfl rfl ?_
  refine wp_step rfl rfl ?_
  refine wp_getg (v := (.int (nI 1))) rfl h.1.1 (by decide) (congrArg Value.int h36) ?_
  refine wp_step rfl rfl ?_
  refine wp_icmp_t rfl rfl ?_
  refine wp_step rfl rfl ?_
  refine wp_getg (v := (.int (nI 1))) rfl h.1.1 (by decide) (congrArg Value.int h36) ?_
  refine wp_step rfl rfl ?_
  refine wp_icmp_t rfl rfl ?_
  refine wp_step rfl rfl ?_
  refine wp_getg (v := (.int (nI 1))) rfl h.1.1 (by decide) (congrArg Value.int h36) ?_
  refine wp_step rfl rfl ?_
  refine wp_icmp_f rfl rfl ?_
  refine wp_step rfl rfl ?_
  refine wp_lret rfl rfl (hq S I (fr_refl _ _) (gf_refl _ _) h)
theorem wt_2 {S : am_S} {I : Nat → Int32} {st li : Int64} {K : jMK} {p : Nat} (hb : ∀ j, b j < 256) (h : lkS S I st li b v tot re M E C K ci ck) (hw : mWk S I st li b v p tot (4 * v + ci) M K) (h36 : I 36 = nI 2) (hlt : p < tot) (hq : ∀ T J, fr [408] S T → gf [21, 22] I J → lkS T J st li b v tot re M E C K ci ck → Q (.inl (some (.long (if b p = 0 then 0 else 1))), T)) : wp X (d + 4) 139 21 [some (.ref 408), none, none] [] S Q := by
  obtain ⟨hci, hv, htot, hT, hmck, hC⟩ := lkS_sl h
  refine wp_step rfl rfl ?_
  refine wp_getg (v := (.int (nI 2))) rfl h.1.1 (by decide) (congrArg Value.int h36) ?_
  refine wp_step rfl rfl ?_
  refine wp_icmp_t rfl rfl ?_
  refine wp_step rfl rfl ?_
  refine wp_getg (v := (.int (nI 2))) rfl h.1.1 (by decide) (congrArg Value.int h36) ?_
  refine wp_step rfl rfl ?_
  refine wp_icmp_t rfl rfl ?_
  refine wp_step rfl rfl ?_
  refine wp_getg (v := (.int (nI 2))) rfl h.1.1 (by decide) (congrArg Value.int h36) ?_
  refine wp_step rfl rfl ?_
  refine wp_icmp_t rfl rfl ?_
  refine wp_step rfl rfl ?_
  refine wp_getg (v := (.int (nI 2))) rfl h.1.1 (by decide) (congrArg Value.int h36) ?_
  refine wp_step rfl rfl ?_
  refine wp_icmp_t rfl rfl ?_
  refine wp_step rfl rfl ?_
  refine wp_getg (v := (.int (nI 2))) rfl h.1.1 (by decide) (congrArg Value.int h36) ?_
  refine wp_step rfl rfl ?_
  refine wp_icmp_f rfl rfl ?_
  refine wp_step rfl rfl ?_
  refine wp_c0 rfl rfl (by decide) rfl (recv_ok h.1.1 rfl) rfl (q_wnext hb hw hlt (fun T J hf1 hg1 h1 => ?_))
  have hbp := hb p
  refine wp_if rfl (fun c0 => ?_) (fun c0 => ?_)
  · replace c0 := z_ne_t (a := b p) (by omega) c0
    rw [if_neg c0] at hq
    refine wp_step rfl rfl ?_
    refine wp_lret rfl rfl (hq T J (hf1) (gf_mono hg1 (fun j hj => by simp only [List.mem_cons, List.not_mem_nil, or_false] at hj ⊢; omega)) (lkS_of h hf1 (fun j hj => by simp only [List.mem_cons, List.not_mem_nil, or_false] at hj; omega) hg1 h1 (by decide) (by decide) (by decide) (by decide) (by decide)))
  · replace c0 := z_ne_f (a := b p) (by omega) c0
    rw [if_pos c0] at hq
    iterate 2 refine wp_step rfl rfl ?_
    refine wp_lret rfl rfl (hq T J (hf1) (gf_mono hg1 (fun j hj => by simp only [List.mem_cons, List.not_mem_nil, or_false] at hj ⊢; omega)) (lkS_of h hf1 (fun j hj => by simp only [List.mem_cons, List.not_mem_nil, or_false] at hj; omega) hg1 h1 (by decide) (by decide) (by decide) (by decide) (by decide)))
theorem wt_3 {S : am_S} {I : Nat → Int32} {st li : Int64} {K : jMK} {p : Nat} (hb : ∀ j, b j < 256) (h : lkS S I st li b v tot re M E C K ci ck) (hw : mWk S I st li b v p tot (4 * v + ci) M K) (h36 : I 36 = nI 3) (hlt : p < tot) (hq : ∀ T J, fr [408] S T → gf [21, 22] I J → lkS T J st li b v tot re M E C K ci ck → Q (.inl (some (.long ((nI (b p)).toInt8.toInt32.toInt64))), T)) : wp X (d + 4) 139 21 [some (.ref 408), none, none] [] S Q := by
  obtain ⟨hci, hv, htot, hT, hmck, hC⟩ := lkS_sl h
  refine wp_step rfl rfl ?_
  refine wp_getg (v := (.int (nI 3))) rfl h.1.1 (by decide) (congrArg Value.int h36) ?_
  refine wp_step rfl rfl ?_
  refine wp_icmp_t rfl rfl ?_
  refine wp_step rfl rfl ?_
  refine wp_getg (v := (.int (nI 3))) rfl h.1.1 (by decide) (congrArg Value.int h36) ?_
  refine wp_step rfl rfl ?_
  refine wp_icmp_t rfl rfl ?_
  refine wp_step rfl rfl ?_
  refine wp_getg (v := (.int (nI 3))) rfl h.1.1 (by decide) (congrArg Value.int h36) ?_
  refine wp_step rfl rfl ?_
  refine wp_icmp_t rfl rfl ?_
  refine wp_step rfl rfl ?_
  refine wp_getg (v := (.int (nI 3))) rfl h.1.1 (by decide) (congrArg Value.int h36) ?_
  refine wp_step rfl rfl ?_
  refine wp_icmp_t rfl rfl ?_
  refine wp_step rfl rfl ?_
  refine wp_getg (v := (.int (nI 3))) rfl h.1.1 (by decide) (congrArg Value.int h36) ?_
  refine wp_step rfl rfl ?_
  refine wp_icmp_t rfl rfl ?_
  refine wp_step rfl rfl ?_
  refine wp_getg (v := (.int (nI 3))) rfl h.1.1 (by decide) (congrArg Value.int h36) ?_
  refine wp_step rfl rfl ?_
  refine wp_icmp_f rfl rfl ?_
  refine wp_step rfl rfl ?_
  refine wp_c0 rfl rfl (by decide) rfl (recv_ok h.1.1 rfl) rfl (q_wnext hb hw hlt (fun T J hf1 hg1 h1 => ?_))
  iterate 2 refine wp_step rfl rfl ?_
  refine wp_lret rfl rfl (hq T J (hf1) (gf_mono hg1 (fun j hj => by simp only [List.mem_cons, List.not_mem_nil, or_false] at hj ⊢; omega)) (lkS_of h hf1 (fun j hj => by simp only [List.mem_cons, List.not_mem_nil, or_false] at hj; omega) hg1 h1 (by decide) (by decide) (by decide) (by decide) (by decide)))
theorem wt_8 {S : am_S} {I : Nat → Int32} {st li : Int64} {K : jMK} {p : Nat} (hb : ∀ j, b j < 256) (h : lkS S I st li b v tot re M E C K ci ck) (hw : mWk S I st li b v p tot (4 * v + ci) M K) (h36 : I 36 = nI 8) (h33 : I 33 = nI p) (hlt : p + 4 ≤ tot) (hq : ∀ T J, fr [408] S T → gf [21, 22] I J → lkS T J st li b v tot re M E C K ci ck → Q (.inl (some (.long (lN (w4 b p)))), T)) : wp X (d + 4) 139 21 [some (.ref 408), none, none] [] S Q := by
  obtain ⟨hci, hv, htot, hT, hmck, hC⟩ := lkS_sl h
  refine wp_step rfl rfl ?_
  refine wp_getg (v := (.int (nI 8))) rfl h.1.1 (by decide) (congrArg Value.int h36) ?_
  refine wp_step rfl rfl ?_
  refine wp_icmp_t rfl rfl ?_
  refine wp_step rfl rfl ?_
  refine wp_getg (v := (.int (nI 8))) rfl h.1.1 (by decide) (congrArg Value.int h36) ?_
  refine wp_step rfl rfl ?_
  refine wp_icmp_t rfl rfl ?_
  refine wp_step rfl rfl ?_
  refine wp_getg (v := (.int (nI 8))) rfl h.1.1 (by decide) (congrArg Value.int h36) ?_
  refine wp_step rfl rfl ?_
  refine wp_icmp_t rfl rfl ?_
  refine wp_step rfl rfl ?_
  refine wp_getg (v := (.int (nI 8))) rfl h.1.1 (by decide) (congrArg Value.int h36) ?_
  refine wp_step rfl rfl ?_
  refine wp_icmp_t rfl rfl ?_
  refine wp_step rfl rfl ?_
  refine wp_getg (v := (.int (nI 8))) rfl h.1.1 (by decide) (congrArg Value.int h36) ?_
  refine wp_step rfl rfl ?_
  refine wp_icmp_t rfl rfl ?_
  refine wp_step rfl rfl ?_
  refine wp_getg (v := (.int (nI 8))) rfl h.1.1 (by decide) (congrArg Value.int h36) ?_
  refine wp_step rfl rfl ?_
  refine wp_icmp_t rfl rfl ?_
  refine wp_step rfl rfl ?_
  refine wp_getg (v := (.int (nI 8))) rfl h.1.1 (by decide) (congrArg Value.int h36) ?_
  refine wp_step rfl rfl ?_
  refine wp_icmp_f rfl rfl ?_
  iterate 2 refine wp_step rfl rfl ?_
  refine wp_getg (v := (.int (nI p))) rfl h.1.1 (by decide) (congrArg Value.int h33) ?_
  refine wp_c0 rfl rfl (by decide) rfl (recv_ok h.1.1 rfl) rfl (q_mfour hb hw.1.1 hw.1.2.1 hw.1.2.2.1 hv (by omega) ?_)
  refine wp_lret rfl rfl (hq S I (fr_refl _ _) (gf_refl _ _) h)
theorem wt_9 {S : am_S} {I : Nat → Int32} {st li : Int64} {K : jMK} {p : Nat} (hb : ∀ j, b j < 256) (h : lkS S I st li b v tot re M E C K ci ck) (hw : mWk S I st li b v p tot (4 * v + ci) M K) (h36 : I 36 = nI 9) (h33 : I 33 = nI p) (hlt : p + 8 ≤ tot) (hq : ∀ T J, fr [408] S T → gf [21, 22] I J → lkS T J st li b v tot re M E C K ci ck → Q (.inl (some (.long ((lN (w4 b p) <<< ((32 : Int32).toInt64 &&& 63)) ||| lN (w4 b (p + 4))))), T)) : wp X (d + 4) 139 21 [some (.ref 408), none, none] [] S Q := by
  obtain ⟨hci, hv, htot, hT, hmck, hC⟩ := lkS_sl h
  refine wp_step rfl rfl ?_
  refine wp_getg (v := (.int (nI 9))) rfl h.1.1 (by decide) (congrArg Value.int h36) ?_
  refine wp_step rfl rfl ?_
  refine wp_icmp_t rfl rfl ?_
  refine wp_step rfl rfl ?_
  refine wp_getg (v := (.int (nI 9))) rfl h.1.1 (by decide) (congrArg Value.int h36) ?_
  refine wp_step rfl rfl ?_
  refine wp_icmp_t rfl rfl ?_
  refine wp_step rfl rfl ?_
  refine wp_getg (v := (.int (nI 9))) rfl h.1.1 (by decide) (congrArg Value.int h36) ?_
  refine wp_step rfl rfl ?_
  refine wp_icmp_t rfl rfl ?_
  refine wp_step rfl rfl ?_
  refine wp_getg (v := (.int (nI 9))) rfl h.1.1 (by decide) (congrArg Value.int h36) ?_
  refine wp_step rfl rfl ?_
  refine wp_icmp_t rfl rfl ?_
  refine wp_step rfl rfl ?_
  refine wp_getg (v := (.int (nI 9))) rfl h.1.1 (by decide) (congrArg Value.int h36) ?_
  refine wp_step rfl rfl ?_
  refine wp_icmp_t rfl rfl ?_
  refine wp_step rfl rfl ?_
  refine wp_getg (v := (.int (nI 9))) rfl h.1.1 (by decide) (congrArg Value.int h36) ?_
  refine wp_step rfl rfl ?_
  refine wp_icmp_t rfl rfl ?_
  refine wp_step rfl rfl ?_
  refine wp_getg (v := (.int (nI 9))) rfl h.1.1 (by decide) (congrArg Value.int h36) ?_
  refine wp_step rfl rfl ?_
  refine wp_icmp_t rfl rfl ?_
  refine wp_step rfl rfl ?_
  refine wp_getg (v := (.int (nI 9))) rfl h.1.1 (by decide) (congrArg Value.int h36) ?_
  refine wp_step rfl rfl ?_
  refine wp_icmp_f rfl rfl ?_
  iterate 2 refine wp_step rfl rfl ?_
  refine wp_getg (v := (.int (nI p))) rfl h.1.1 (by decide) (congrArg Value.int h33) ?_
  refine wp_c0 rfl rfl (by decide) rfl (recv_ok h.1.1 rfl) rfl (q_mfour hb hw.1.1 hw.1.2.1 hw.1.2.2.1 hv (by omega) ?_)
  iterate 4 refine wp_step rfl rfl ?_
  refine wp_getg (v := (.int (nI p))) rfl h.1.1 (by decide) (congrArg Value.int h33) ?_
  iterate 2 refine wp_step rfl rfl ?_
  rw [show nI p + Int32.ofInt 4 = nI (p + 4) from nI_add p 4]
  refine wp_c0 rfl rfl (by decide) rfl (recv_ok h.1.1 rfl) rfl (q_mfour hb hw.1.1 hw.1.2.1 hw.1.2.2.1 hv (by omega) ?_)
  refine wp_step rfl rfl ?_
  refine wp_lret rfl rfl (hq S I (fr_refl _ _) (gf_refl _ _) h)
theorem wt_4 {S : am_S} {I : Nat → Int32} {st li : Int64} {K : jMK} {p : Nat} (hb : ∀ j, b j < 256) (h : lkS S I st li b v tot re M E C K ci ck) (hw : mWk S I st li b v p tot (4 * v + ci) M K) (h36 : I 36 = nI 4) {x : Int64} {p1 : Nat} (en : num9 (Bn b) tot p = some (x, p1)) (hq : ∀ T J, fr [408] S T → gf [21, 22] I J → lkS T J st li b v tot re M E C K ci ck → Q (.inl (some (.long (x.toInt32.toInt16.toInt32.toInt64))), T)) : wp X (d + 4) 139 21 [some (.ref 408), none, none] [] S Q := by
  obtain ⟨hci, hv, htot, hT, hmck, hC⟩ := lkS_sl h
  refine wp_step rfl rfl ?_
  refine wp_getg (v := (.int (nI 4))) rfl h.1.1 (by decide) (congrArg Value.int h36) ?_
  refine wp_step rfl rfl ?_
  refine wp_icmp_t rfl rfl ?_
  refine wp_step rfl rfl ?_
  refine wp_getg (v := (.int (nI 4))) rfl h.1.1 (by decide) (congrArg Value.int h36) ?_
  refine wp_step rfl rfl ?_
  refine wp_icmp_t rfl rfl ?_
  refine wp_step rfl rfl ?_
  refine wp_getg (v := (.int (nI 4))) rfl h.1.1 (by decide) (congrArg Value.int h36) ?_
  refine wp_step rfl rfl ?_
  refine wp_icmp_t rfl rfl ?_
  refine wp_step rfl rfl ?_
  refine wp_getg (v := (.int (nI 4))) rfl h.1.1 (by decide) (congrArg Value.int h36) ?_
  refine wp_step rfl rfl ?_
  refine wp_icmp_t rfl rfl ?_
  refine wp_step rfl rfl ?_
  refine wp_getg (v := (.int (nI 4))) rfl h.1.1 (by decide) (congrArg Value.int h36) ?_
  refine wp_step rfl rfl ?_
  refine wp_icmp_t rfl rfl ?_
  refine wp_step rfl rfl ?_
  refine wp_getg (v := (.int (nI 4))) rfl h.1.1 (by decide) (congrArg Value.int h36) ?_
  refine wp_step rfl rfl ?_
  refine wp_icmp_t rfl rfl ?_
  refine wp_step rfl rfl ?_
  refine wp_getg (v := (.int (nI 4))) rfl h.1.1 (by decide) (congrArg Value.int h36) ?_
  refine wp_step rfl rfl ?_
  refine wp_icmp_t rfl rfl ?_
  refine wp_step rfl rfl ?_
  refine wp_getg (v := (.int (nI 4))) rfl h.1.1 (by decide) (congrArg Value.int h36) ?_
  refine wp_step rfl rfl ?_
  refine wp_icmp_t rfl rfl ?_
  refine wp_step rfl rfl ?_
  refine wp_c0 rfl rfl (by decide) rfl (recv_ok h.1.1 rfl) rfl (q_wcomp hb hw en (fun T J hf1 hg1 h1 => ?_))
  refine wp_step rfl rfl ?_
  have j36 : J 36 = nI 4 := (hg1 36 (by decide)).trans h36
  show wp X (d + 4) 139 173 [some (.ref 408), some (.long x), none] [] T Q
  refine wp_step rfl rfl ?_
  refine wp_getg (v := (.int (nI 4))) rfl h1.1.1 (by decide) (congrArg Value.int j36) ?_
  refine wp_step rfl rfl ?_
  refine wp_icmp_f rfl rfl ?_
  iterate 5 refine wp_step rfl rfl ?_
  refine wp_lret rfl rfl (hq T J (hf1) (gf_mono hg1 (fun j hj => by simp only [List.mem_cons, List.not_mem_nil, or_false] at hj ⊢; omega)) (lkS_of h hf1 (fun j hj => by simp only [List.mem_cons, List.not_mem_nil, or_false] at hj; omega) hg1 h1 (by decide) (by decide) (by decide) (by decide) (by decide)))
theorem wt_5 {S : am_S} {I : Nat → Int32} {st li : Int64} {K : jMK} {p : Nat} (hb : ∀ j, b j < 256) (h : lkS S I st li b v tot re M E C K ci ck) (hw : mWk S I st li b v p tot (4 * v + ci) M K) (h36 : I 36 = nI 5) {x : Int64} {p1 : Nat} (en : num9 (Bn b) tot p = some (x, p1)) (hq : ∀ T J, fr [408] S T → gf [21, 22] I J → lkS T J st li b v tot re M E C K ci ck → Q (.inl (some (.long ((x.toInt32.toUInt32 % 65536).toInt32.toInt64))), T)) : wp X (d + 4) 139 21 [some (.ref 408), none, none] [] S Q := by
  obtain ⟨hci, hv, htot, hT, hmck, hC⟩ := lkS_sl h
  refine wp_step rfl rfl ?_
  refine wp_getg (v := (.int (nI 5))) rfl h.1.1 (by decide) (congrArg Value.int h36) ?_
  refine wp_step rfl rfl ?_
  refine wp_icmp_t rfl rfl ?_
  refine wp_step rfl rfl ?_
  refine wp_getg (v := (.int (nI 5))) rfl h.1.1 (by decide) (congrArg Value.int h36) ?_
  refine wp_step rfl rfl ?_
  refine wp_icmp_t rfl rfl ?_
  refine wp_step rfl rfl ?_
  refine wp_getg (v := (.int (nI 5))) rfl h.1.1 (by decide) (congrArg Value.int h36) ?_
  refine wp_step rfl rfl ?_
  refine wp_icmp_t rfl rfl ?_
  refine wp_step rfl rfl ?_
  refine wp_getg (v := (.int (nI 5))) rfl h.1.1 (by decide) (congrArg Value.int h36) ?_
  refine wp_step rfl rfl ?_
  refine wp_icmp_t rfl rfl ?_
  refine wp_step rfl rfl ?_
  refine wp_getg (v := (.int (nI 5))) rfl h.1.1 (by decide) (congrArg Value.int h36) ?_
  refine wp_step rfl rfl ?_
  refine wp_icmp_t rfl rfl ?_
  refine wp_step rfl rfl ?_
  refine wp_getg (v := (.int (nI 5))) rfl h.1.1 (by decide) (congrArg Value.int h36) ?_
  refine wp_step rfl rfl ?_
  refine wp_icmp_t rfl rfl ?_
  refine wp_step rfl rfl ?_
  refine wp_getg (v := (.int (nI 5))) rfl h.1.1 (by decide) (congrArg Value.int h36) ?_
  refine wp_step rfl rfl ?_
  refine wp_icmp_t rfl rfl ?_
  refine wp_step rfl rfl ?_
  refine wp_getg (v := (.int (nI 5))) rfl h.1.1 (by decide) (congrArg Value.int h36) ?_
  refine wp_step rfl rfl ?_
  refine wp_icmp_t rfl rfl ?_
  refine wp_step rfl rfl ?_
  refine wp_c0 rfl rfl (by decide) rfl (recv_ok h.1.1 rfl) rfl (q_wcomp hb hw en (fun T J hf1 hg1 h1 => ?_))
  refine wp_step rfl rfl ?_
  have j36 : J 36 = nI 5 := (hg1 36 (by decide)).trans h36
  show wp X (d + 4) 139 173 [some (.ref 408), some (.long x), none] [] T Q
  refine wp_step rfl rfl ?_
  refine wp_getg (v := (.int (nI 5))) rfl h1.1.1 (by decide) (congrArg Value.int j36) ?_
  refine wp_step rfl rfl ?_
  refine wp_icmp_t rfl rfl ?_
  refine wp_step rfl rfl ?_
  refine wp_getg (v := (.int (nI 5))) rfl h1.1.1 (by decide) (congrArg Value.int j36) ?_
  refine wp_step rfl rfl ?_
  refine wp_icmp_f rfl rfl ?_
  iterate 4 refine wp_step rfl rfl ?_
  rw [l_and16]
  refine wp_lret rfl rfl (hq T J (hf1) (gf_mono hg1 (fun j hj => by simp only [List.mem_cons, List.not_mem_nil, or_false] at hj ⊢; omega)) (lkS_of h hf1 (fun j hj => by simp only [List.mem_cons, List.not_mem_nil, or_false] at hj; omega) hg1 h1 (by decide) (by decide) (by decide) (by decide) (by decide)))
theorem wt_6 {S : am_S} {I : Nat → Int32} {st li : Int64} {K : jMK} {p : Nat} (hb : ∀ j, b j < 256) (h : lkS S I st li b v tot re M E C K ci ck) (hw : mWk S I st li b v p tot (4 * v + ci) M K) (h36 : I 36 = nI 6) {x : Int64} {p1 : Nat} (en : num9 (Bn b) tot p = some (x, p1)) (hq : ∀ T J, fr [408] S T → gf [21, 22] I J → lkS T J st li b v tot re M E C K ci ck → Q (.inl (some (.long (x.toInt32.toInt64))), T)) : wp X (d + 4) 139 21 [some (.ref 408), none, none] [] S Q := by
  obtain ⟨hci, hv, htot, hT, hmck, hC⟩ := lkS_sl h
  refine wp_step rfl rfl ?_
  refine wp_getg (v := (.int (nI 6))) rfl h.1.1 (by decide) (congrArg Value.int h36) ?_
  refine wp_step rfl rfl ?_
  refine wp_icmp_t rfl rfl ?_
  refine wp_step rfl rfl ?_
  refine wp_getg (v := (.int (nI 6))) rfl h.1.1 (by decide) (congrArg Value.int h36) ?_
  refine wp_step rfl rfl ?_
  refine wp_icmp_t rfl rfl ?_
  refine wp_step rfl rfl ?_
  refine wp_getg (v := (.int (nI 6))) rfl h.1.1 (by decide) (congrArg Value.int h36) ?_
  refine wp_step rfl rfl ?_
  refine wp_icmp_t rfl rfl ?_
  refine wp_step rfl rfl ?_
  refine wp_getg (v := (.int (nI 6))) rfl h.1.1 (by decide) (congrArg Value.int h36) ?_
  refine wp_step rfl rfl ?_
  refine wp_icmp_t rfl rfl ?_
  refine wp_step rfl rfl ?_
  refine wp_getg (v := (.int (nI 6))) rfl h.1.1 (by decide) (congrArg Value.int h36) ?_
  refine wp_step rfl rfl ?_
  refine wp_icmp_t rfl rfl ?_
  refine wp_step rfl rfl ?_
  refine wp_getg (v := (.int (nI 6))) rfl h.1.1 (by decide) (congrArg Value.int h36) ?_
  refine wp_step rfl rfl ?_
  refine wp_icmp_t rfl rfl ?_
  refine wp_step rfl rfl ?_
  refine wp_getg (v := (.int (nI 6))) rfl h.1.1 (by decide) (congrArg Value.int h36) ?_
  refine wp_step rfl rfl ?_
  refine wp_icmp_t rfl rfl ?_
  refine wp_step rfl rfl ?_
  refine wp_getg (v := (.int (nI 6))) rfl h.1.1 (by decide) (congrArg Value.int h36) ?_
  refine wp_step rfl rfl ?_
  refine wp_icmp_t rfl rfl ?_
  refine wp_step rfl rfl ?_
  refine wp_c0 rfl rfl (by decide) rfl (recv_ok h.1.1 rfl) rfl (q_wcomp hb hw en (fun T J hf1 hg1 h1 => ?_))
  refine wp_step rfl rfl ?_
  have j36 : J 36 = nI 6 := (hg1 36 (by decide)).trans h36
  show wp X (d + 4) 139 173 [some (.ref 408), some (.long x), none] [] T Q
  refine wp_step rfl rfl ?_
  refine wp_getg (v := (.int (nI 6))) rfl h1.1.1 (by decide) (congrArg Value.int j36) ?_
  refine wp_step rfl rfl ?_
  refine wp_icmp_t rfl rfl ?_
  refine wp_step rfl rfl ?_
  refine wp_getg (v := (.int (nI 6))) rfl h1.1.1 (by decide) (congrArg Value.int j36) ?_
  refine wp_step rfl rfl ?_
  refine wp_icmp_t rfl rfl ?_
  refine wp_step rfl rfl ?_
  refine wp_getg (v := (.int (nI 6))) rfl h1.1.1 (by decide) (congrArg Value.int j36) ?_
  refine wp_step rfl rfl ?_
  refine wp_icmp_f rfl rfl ?_
  iterate 4 refine wp_step rfl rfl ?_
  refine wp_lret rfl rfl (hq T J (hf1) (gf_mono hg1 (fun j hj => by simp only [List.mem_cons, List.not_mem_nil, or_false] at hj ⊢; omega)) (lkS_of h hf1 (fun j hj => by simp only [List.mem_cons, List.not_mem_nil, or_false] at hj; omega) hg1 h1 (by decide) (by decide) (by decide) (by decide) (by decide)))
theorem wt_7 {S : am_S} {I : Nat → Int32} {st li : Int64} {K : jMK} {p : Nat} (hb : ∀ j, b j < 256) (h : lkS S I st li b v tot re M E C K ci ck) (hw : mWk S I st li b v p tot (4 * v + ci) M K) (h36 : I 36 = nI 7) {x : Int64} {p1 : Nat} (en : num9 (Bn b) tot p = some (x, p1)) (hq : ∀ T J, fr [408] S T → gf [21, 22] I J → lkS T J st li b v tot re M E C K ci ck → Q (.inl (some (.long (x))), T)) : wp X (d + 4) 139 21 [some (.ref 408), none, none] [] S Q := by
  obtain ⟨hci, hv, htot, hT, hmck, hC⟩ := lkS_sl h
  refine wp_step rfl rfl ?_
  refine wp_getg (v := (.int (nI 7))) rfl h.1.1 (by decide) (congrArg Value.int h36) ?_
  refine wp_step rfl rfl ?_
  refine wp_icmp_t rfl rfl ?_
  refine wp_step rfl rfl ?_
  refine wp_getg (v := (.int (nI 7))) rfl h.1.1 (by decide) (congrArg Value.int h36) ?_
  refine wp_step rfl rfl ?_
  refine wp_icmp_t rfl rfl ?_
  refine wp_step rfl rfl ?_
  refine wp_getg (v := (.int (nI 7))) rfl h.1.1 (by decide) (congrArg Value.int h36) ?_
  refine wp_step rfl rfl ?_
  refine wp_icmp_t rfl rfl ?_
  refine wp_step rfl rfl ?_
  refine wp_getg (v := (.int (nI 7))) rfl h.1.1 (by decide) (congrArg Value.int h36) ?_
  refine wp_step rfl rfl ?_
  refine wp_icmp_t rfl rfl ?_
  refine wp_step rfl rfl ?_
  refine wp_getg (v := (.int (nI 7))) rfl h.1.1 (by decide) (congrArg Value.int h36) ?_
  refine wp_step rfl rfl ?_
  refine wp_icmp_t rfl rfl ?_
  refine wp_step rfl rfl ?_
  refine wp_getg (v := (.int (nI 7))) rfl h.1.1 (by decide) (congrArg Value.int h36) ?_
  refine wp_step rfl rfl ?_
  refine wp_icmp_t rfl rfl ?_
  refine wp_step rfl rfl ?_
  refine wp_getg (v := (.int (nI 7))) rfl h.1.1 (by decide) (congrArg Value.int h36) ?_
  refine wp_step rfl rfl ?_
  refine wp_icmp_t rfl rfl ?_
  refine wp_step rfl rfl ?_
  refine wp_getg (v := (.int (nI 7))) rfl h.1.1 (by decide) (congrArg Value.int h36) ?_
  refine wp_step rfl rfl ?_
  refine wp_icmp_t rfl rfl ?_
  refine wp_step rfl rfl ?_
  refine wp_c0 rfl rfl (by decide) rfl (recv_ok h.1.1 rfl) rfl (q_wcomp hb hw en (fun T J hf1 hg1 h1 => ?_))
  refine wp_step rfl rfl ?_
  have j36 : J 36 = nI 7 := (hg1 36 (by decide)).trans h36
  show wp X (d + 4) 139 173 [some (.ref 408), some (.long x), none] [] T Q
  refine wp_step rfl rfl ?_
  refine wp_getg (v := (.int (nI 7))) rfl h1.1.1 (by decide) (congrArg Value.int j36) ?_
  refine wp_step rfl rfl ?_
  refine wp_icmp_t rfl rfl ?_
  refine wp_step rfl rfl ?_
  refine wp_getg (v := (.int (nI 7))) rfl h1.1.1 (by decide) (congrArg Value.int j36) ?_
  refine wp_step rfl rfl ?_
  refine wp_icmp_t rfl rfl ?_
  refine wp_step rfl rfl ?_
  refine wp_getg (v := (.int (nI 7))) rfl h1.1.1 (by decide) (congrArg Value.int j36) ?_
  refine wp_step rfl rfl ?_
  refine wp_icmp_t rfl rfl ?_
  refine wp_step rfl rfl ?_
  refine wp_lret rfl rfl (hq T J (hf1) (gf_mono hg1 (fun j hj => by simp only [List.mem_cons, List.not_mem_nil, or_false] at hj ⊢; omega)) (lkS_of h hf1 (fun j hj => by simp only [List.mem_cons, List.not_mem_nil, or_false] at hj; omega) hg1 h1 (by decide) (by decide) (by decide) (by decide) (by decide)))
set_option maxHeartbeats 1000000 in
theorem q_mworth {S : am_S} {I : Nat → Int32} {st li : Int64} {K : jMK} {o : Option jV} (hb : ∀ j, b j < 256) (h : lkS S I st li b v tot re M E C K ci ck) (hs : spO ck.2.2.1 b tot I st o) (hq : ∀ T J, fr [408] S T → gf [21, 22] I J → lkS T J st li b v tot re M E C K ci ck → Q (.inl (some (.long (wrV ck.2.2.1 b tot o))), T)) : ev X (d + 5) 139 [.ref 408] S Q := by
  refine ev_wp (L0 := [some (.ref 408), none, none]) (Nat.le_of_ble_eq_true rfl) rfl ?_
  obtain ⟨hci, hv, htot, hT, hmck, hC⟩ := lkS_sl h
  have hmz := h.1.2.2.2.2.1
  cases o with
  | none =>
    iterate 2 refine wp_step rfl rfl ?_
    refine wp_getg (v := (.int (I 33))) rfl h.1.1 (by decide) (congrArg Value.int rfl) ?_
    refine wp_putg rfl h.1.1 (by decide) rfl rfl ?_
    rw [mkG_i rfl]
    have h_Sx1 : am_get (am_upd S 408 (moC (upd I 21 (I 33)) st li)) 408 = some (moC (upd I 21 (I 33)) st li) := am_get_self h.1.1
    have hf_Sx1 : fr [408] S (am_upd S 408 (moC (upd I 21 (I 33)) st li)) := fr_up (by simp)
    generalize am_upd S 408 (moC (upd I 21 (I 33)) st li) = Sx1 at h_Sx1 hf_Sx1 ⊢
    obtain ⟨sz, hz1, hz2⟩ := mSz_fr hmz hf_Sx1 (by decide)
    iterate 2 refine wp_step rfl rfl ?_
    refine wp_getg rfl h_Sx1 (by decide) rfl ?_
    refine wp_step rfl rfl ?_
    refine wp_getg (v := (.int (nI v))) rfl h_Sx1 (by decide) (congrArg Value.int ((pk_un (by decide)).trans (h.2.1))) ?_
    refine wp_ald rfl (Or.inl ⟨rfl, rfl⟩) (by decide) hz1 (am_in_nI (by omega) (by decide)) ?_
    rw [nI_clamp (by omega)]
    rw [hz2]
    refine wp_putg rfl h_Sx1 (by decide) rfl rfl ?_
    rw [mkG_i rfl]
    have h_Sx2 : am_get (am_upd Sx1 408 (moC (upd (upd I 21 (I 33)) 22 (nI tot)) st li)) 408 = some (moC (upd (upd I 21 (I 33)) 22 (nI tot)) st li) := am_get_self h_Sx1
    have hf_Sx2 : fr [408] S (am_upd Sx1 408 (moC (upd (upd I 21 (I 33)) 22 (nI tot)) st li)) := fr_trans hf_Sx1 (fr_up (by simp))
    generalize am_upd Sx1 408 (moC (upd (upd I 21 (I 33)) 22 (nI tot)) st li) = Sx2 at h_Sx2 hf_Sx2 ⊢
    clear h_Sx1 hf_Sx1
    have hg_I1 : gf [21, 22] I (upd (upd I 21 (I 33)) 22 (nI tot)) := gf_up (gf_up (gf_refl _ _) (by simp)) (by simp)
    have I1_21 : (upd (upd I 21 (I 33)) 22 (nI tot)) 21 = I 33 := (pk_un (by decide)).trans pk_us
    have I1_22 : (upd (upd I 21 (I 33)) 22 (nI tot)) 22 = nI tot := pk_us
    have a_I1 := h_Sx2
    have hf_I1 := hf_Sx2
    clear h_Sx2 hf_Sx2
    generalize upd (upd I 21 (I 33)) 22 (nI tot) = I1 at a_I1 hg_I1 I1_21 I1_22
    have hl_I1 := lkS_1 (st' := st) (li' := li) h hf_I1 a_I1 hg_I1 (by decide) (by decide) (by decide) (by decide) (by decide)
    have k36 : I1 36 = nI 1 := (hg_I1 36 (by decide)).trans hs
    refine wp_step rfl rfl ?_
    refine wp_getg (v := (.int (nI 1))) rfl a_I1 (by decide) (congrArg Value.int k36) ?_
    refine wp_step rfl rfl ?_
    refine wp_icmp_t rfl rfl ?_
    refine wp_step rfl rfl ?_
    refine wp_getg (v := (.int (nI 1))) rfl a_I1 (by decide) (congrArg Value.int k36) ?_
    refine wp_step rfl rfl ?_
    refine wp_icmp_t rfl rfl ?_
    refine wp_step rfl rfl ?_
    refine wp_getg (v := (.int (nI 1))) rfl a_I1 (by decide) (congrArg Value.int k36) ?_
    refine wp_step rfl rfl ?_
    refine wp_icmp_t rfl rfl ?_
    refine wp_step rfl rfl ?_
    refine wp_getg (v := (.int (nI 1))) rfl a_I1 (by decide) (congrArg Value.int k36) ?_
    refine wp_step rfl rfl ?_
    refine wp_icmp_f rfl rfl ?_
    refine wp_step rfl rfl ?_
    refine wp_lret rfl rfl (hq _ I1 hf_I1 hg_I1 hl_I1)
  | some w =>
    obtain ⟨ty, fl, p⟩ := w
    obtain ⟨k36, kn13, k33, k35, hst, hg⟩ := hs
    dsimp only at k33 k35 hst
    subst hst
    have hp960 : p ≤ 960 := hg.2.2.2.1
    have hty : ty < 2 ^ 31 := hg.2.2.1
    have hfl3 : fl ≤ 3 := hg.2.1
    iterate 2 refine wp_step rfl rfl ?_
    refine wp_getg (v := (.int (nI p))) rfl h.1.1 (by decide) (congrArg Value.int k33) ?_
    refine wp_putg rfl h.1.1 (by decide) rfl rfl ?_
    rw [mkG_i rfl]
    have h_Sx3 : am_get (am_upd S 408 (moC (upd I 21 (nI p)) (lN ty) li)) 408 = some (moC (upd I 21 (nI p)) (lN ty) li) := am_get_self h.1.1
    have hf_Sx3 : fr [408] S (am_upd S 408 (moC (upd I 21 (nI p)) (lN ty) li)) := fr_up (by simp)
    generalize am_upd S 408 (moC (upd I 21 (nI p)) (lN ty) li) = Sx3 at h_Sx3 hf_Sx3 ⊢
    obtain ⟨sz, hz1, hz2⟩ := mSz_fr hmz hf_Sx3 (by decide)
    iterate 2 refine wp_step rfl rfl ?_
    refine wp_getg rfl h_Sx3 (by decide) rfl ?_
    refine wp_step rfl rfl ?_
    refine wp_getg (v := (.int (nI v))) rfl h_Sx3 (by decide) (congrArg Value.int ((pk_un (by decide)).trans (h.2.1))) ?_
    refine wp_ald rfl (Or.inl ⟨rfl, rfl⟩) (by decide) hz1 (am_in_nI (by omega) (by decide)) ?_
    rw [nI_clamp (by omega)]
    rw [hz2]
    refine wp_putg rfl h_Sx3 (by decide) rfl rfl ?_
    rw [mkG_i rfl]
    have h_Sx4 : am_get (am_upd Sx3 408 (moC (upd (upd I 21 (nI p)) 22 (nI tot)) (lN ty) li)) 408 = some (moC (upd (upd I 21 (nI p)) 22 (nI tot)) (lN ty) li) := am_get_self h_Sx3
    have hf_Sx4 : fr [408] S (am_upd Sx3 408 (moC (upd (upd I 21 (nI p)) 22 (nI tot)) (lN ty) li)) := fr_trans hf_Sx3 (fr_up (by simp))
    generalize am_upd Sx3 408 (moC (upd (upd I 21 (nI p)) 22 (nI tot)) (lN ty) li) = Sx4 at h_Sx4 hf_Sx4 ⊢
    clear h_Sx3 hf_Sx3
    have hg_I1 : gf [21, 22] I (upd (upd I 21 (nI p)) 22 (nI tot)) := gf_up (gf_up (gf_refl _ _) (by simp)) (by simp)
    have I1_21 : (upd (upd I 21 (nI p)) 22 (nI tot)) 21 = nI p := (pk_un (by decide)).trans pk_us
    have I1_22 : (upd (upd I 21 (nI p)) 22 (nI tot)) 22 = nI tot := pk_us
    have a_I1 := h_Sx4
    have hf_I1 := hf_Sx4
    clear h_Sx4 hf_Sx4
    generalize upd (upd I 21 (nI p)) 22 (nI tot) = I1 at a_I1 hg_I1 I1_21 I1_22
    have hl_I1 := lkS_1 (st' := (lN ty)) (li' := li) h hf_I1 a_I1 hg_I1 (by decide) (by decide) (by decide) (by decide) (by decide)
    have hw_I1 := lkS_wk hl_I1 I1_21 I1_22 hp960 htot
    have j36 : I1 36 = nI (kdOf b (ty, fl, p)) := (hg_I1 36 (by decide)).trans k36
    have j33 : I1 33 = nI p := (hg_I1 33 (by decide)).trans k33
    have hq1 : ∀ T J, fr [408] Sx4 T → gf [21, 22] I1 J → lkS T J (lN ty) li b v tot re M E C K ci ck → Q (.inl (some (.long (wrOf ck.2.2.1 b tot (ty, fl, p)))), T) := fun T J g1 g2 g3 => hq T J (fr_trans hf_I1 g1) (gf_trans hg_I1 g2) g3
    by_cases hfl : 2 ≤ fl
    · have e12 : kdOf b (ty, fl, p) = 12 := by unfold kdOf; rw [if_pos hfl]
      obtain ⟨len, p1, ec, _⟩ := rdb_ar hg.1 hfl
      have ev : wrOf ck.2.2.1 b tot (ty, fl, p) = lN len := by
        unfold wrOf
        rw [if_pos e12, ec]
      rw [ev] at hq1
      rw [e12] at j36
      exact wt_12 hb hl_I1 hw_I1 j36 ec hq1
    have hfl1 : fl ≠ 1 := fun h9 => kn13 (by unfold kdOf; rw [if_neg hfl, if_pos h9])
    obtain rfl : fl = 0 := by omega
    by_cases h10 : ty = 10
    · subst h10
      obtain ⟨tv, px, ex⟩ := rdb_text hg.1
      rcases rdX_kd ex with ⟨g1, _⟩ | ⟨g1, _⟩ | ⟨g1, g2, ls, g3⟩
      · have e1 : kdOf b (10, 0, p) = 1 := by unfold kdOf; rw [if_neg hfl, if_neg hfl1, if_pos rfl, if_pos g1]
        have ev : wrOf ck.2.2.1 b tot (10, 0, p) = 0 := by
          unfold wrOf
          rw [if_neg (by omega), if_neg (by omega), if_neg (by omega), if_pos e1]
        rw [ev] at hq1
        rw [e1] at j36
        exact wt_1 hb hl_I1 hw_I1 j36 hq1
      · exact absurd (by unfold kdOf; rw [if_neg hfl, if_neg hfl1, if_pos rfl, if_neg (by dsimp only; omega), if_pos g1]) kn13
      · have e1 : kdOf b (10, 0, p) = 10 := by unfold kdOf; rw [if_neg hfl, if_neg hfl1, if_pos rfl, if_neg g1, if_neg g2]
        subst g3
        have els : lsOf b tot (10, 0, p) = ls := by unfold lsOf; dsimp only; rw [ex]
        have ev : wrOf ck.2.2.1 b tot (10, 0, p) = lN ls.length := by
          unfold wrOf
          rw [if_neg (by omega), if_pos e1, els]
        rw [ev] at hq1
        rw [e1] at j36
        exact wt_10 hb hl_I1 hw_I1 j36 j33 ex (by obtain ⟨_, q2, q3⟩ := rdX_pos ex; have := q3 ls rfl; omega) hq1
    by_cases hlt : ty < 10
    · have e1 : kdOf b (ty, 0, p) = ty := by unfold kdOf; rw [if_neg hfl, if_neg hfl1, if_neg h10, if_pos hlt]
      obtain ⟨x, p1, ep⟩ := rdb_pl hg.1 hlt
      have h2 : 2 ≤ ty := by
        rcases hg.2.2.2.2 with g | ⟨_, t, x, g, _⟩
        · rcases g with g | g
          · exact g.1
          · dsimp only at g; omega
        · have := tix_ten hmck.1 g
          dsimp only at this
          omega
      have ev : wrOf ck.2.2.1 b tot (ty, 0, p) = x := by
        unfold wrOf
        rw [if_neg (by omega), if_neg (by omega), if_neg (by omega), if_neg (by omega), ep]
      rw [ev] at hq1
      rw [e1] at j36
      have hcs : ty = 2 ∨ ty = 3 ∨ ty = 4 ∨ ty = 5 ∨ ty = 6 ∨ ty = 7 ∨ ty = 8 ∨ ty = 9 := by omega
      unfold rdP at ep
      rcases hcs with rfl | rfl | rfl | rfl | rfl | rfl | rfl | rfl
      · rw [if_pos rfl] at ep
        split at ep
        · cases ep
        · cases ep; exact wt_2 hb hl_I1 hw_I1 j36 (by omega) hq1
      · rw [if_neg (by decide), if_pos rfl] at ep
        split at ep
        · cases ep
        · cases ep; exact wt_3 hb hl_I1 hw_I1 j36 (by omega) hq1
      · rw [if_neg (by decide), if_neg (by decide), if_neg (by decide), if_neg (by decide)] at ep
        cases en : num9 (Bn b) tot p with
        | none => rw [en] at ep; cases ep
        | some z => obtain ⟨x2, p2⟩ := z; rw [en] at ep; cases ep; exact wt_4 hb hl_I1 hw_I1 j36 en hq1
      · rw [if_neg (by decide), if_neg (by decide), if_neg (by decide), if_neg (by decide)] at ep
        cases en : num9 (Bn b) tot p with
        | none => rw [en] at ep; cases ep
        | some z => obtain ⟨x2, p2⟩ := z; rw [en] at ep; cases ep; exact wt_5 hb hl_I1 hw_I1 j36 en hq1
      · rw [if_neg (by decide), if_neg (by decide), if_neg (by decide), if_neg (by decide)] at ep
        cases en : num9 (Bn b) tot p with
        | none => rw [en] at ep; cases ep
        | some z => obtain ⟨x2, p2⟩ := z; rw [en] at ep; cases ep; exact wt_6 hb hl_I1 hw_I1 j36 en hq1
      · rw [if_neg (by decide), if_neg (by decide), if_neg (by decide), if_neg (by decide)] at ep
        cases en : num9 (Bn b) tot p with
        | none => rw [en] at ep; cases ep
        | some z => obtain ⟨x2, p2⟩ := z; rw [en] at ep; cases ep; exact wt_7 hb hl_I1 hw_I1 j36 en hq1
      · rw [if_neg (by decide), if_neg (by decide), if_pos rfl] at ep
        split at ep
        · cases ep
        · cases ep
          rw [fx_N hb 4 (by decide)] at hq1
          exact wt_8 hb hl_I1 hw_I1 j36 j33 (by omega) hq1
      · rw [if_neg (by decide), if_neg (by decide), if_neg (by decide), if_pos rfl] at ep
        split at ep
        · cases ep
        · cases ep
          rw [fx_8 hb] at hq1
          exact wt_9 hb hl_I1 hw_I1 j36 j33 (by omega) hq1
    · have e1 : kdOf b (ty, 0, p) = 11 := by unfold kdOf; rw [if_neg hfl, if_neg hfl1, if_neg h10, if_neg hlt]
      obtain ⟨t, ht⟩ : ∃ t, tix ck.2.2.1 ty = some t := by
        rcases hg.2.2.2.2 with g | ⟨_, t, x, g, _⟩
        · rcases g with g | ⟨_, _, t, x, g, _⟩
          · dsimp only at g; omega
          · exact ⟨t, g⟩
        · exact ⟨t, g⟩
      obtain ⟨x, hx, hx1, hxl⟩ := tix_some ht
      have ev : wrOf ck.2.2.1 b tot (ty, 0, p) = lN x.2.1 := by
        unfold wrOf
        rw [if_neg (by omega), if_neg (by omega), if_pos e1, ht]
        dsimp only
        rw [hx]
      rw [ev] at hq1
      rw [e1] at j36
      exact wt_11 hb hl_I1 hw_I1 j36 rfl hty ht hx hq1
end MWORTH2
