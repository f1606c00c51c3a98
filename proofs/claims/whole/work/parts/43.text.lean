/-! Values.readText -/
def lput (f : Nat → Int32) : Nat → List Nat → (Nat → Int32)
  | _, [] => f
  | l, x :: ls => lput (upd f l (nI x)) (l + 1) ls
theorem lput_lt {ls : List Nat} : ∀ {f : Nat → Int32} {l j : Nat}, j < l → lput f l ls j = f j := by
  induction ls with
  | nil => intro f l j _; rfl
  | cons x ls ih =>
    intro f l j h
    show lput (upd f l (nI x)) (l + 1) ls j = f j
    rw [ih (by omega), pk_un (by omega)]
theorem lput_at {ls : List Nat} : ∀ {f : Nat → Int32} {l i x : Nat}, ls[i]? = some x → lput f l ls (l + i) = nI x := by
  induction ls with
  | nil => intro f l i x h; simp at h
  | cons y ls ih =>
    intro f l i x h
    show lput (upd f l (nI y)) (l + 1) ls (l + i) = nI x
    cases i with
    | zero => simp at h; subst h; rw [lput_lt (by omega)]; exact pk_us
    | succ i =>
      simp at h
      have h1 := ih (f := upd f l (nI y)) (l := l + 1) h
      rw [show l + (i + 1) = l + 1 + i by omega]
      exact h1
abbrev ltA (A : jVA) (l : Nat) (ls : List Nat) : jVA := (A.1, A.2.1, A.2.2.1, A.2.2.2.1, lput A.2.2.2.2 l ls)
def vSx (S : am_S) (v : Nat) : Prop := ∃ n l A, vS S v n l A
section TEXT
variable {X : Nat × (Nat → Int32)} {d : Nat} {Q : am_R → Prop} {b : Nat → Nat} {tot lim idp v n : Nat}
set_option maxHeartbeats 1000000 in
theorem tx_loop4 (hb : ∀ j, b j < 256) (hv3 : 3 ≤ v) {nd p l0 m0 en : Nat} (hm : m0 < 2 ^ 31) :
    ∀ (m i q l : Nat) (A : jVA) (S : am_S), i + m = m0 → sK S b tot q lim idp → vS S v n l A → l < q →
      (∀ ls q' T, nls b lim m q = .inr (ls, q') → fr [1, v, v + 5] S T → sK T b tot q' lim idp → vS T v n (l + ls.length) (ltA A l ls) → wp X (d + 3) 68 192 [some (.ref v), some (.ref 1), some (.int (nI nd)), some (.int (nI p)), some (.int (nI 4)), some (.int (nI (p + 1))), some (.int (nI l0)), some (.int (nI m0)), some (.int (nI en)), some (.int (nI m0))] [] T Q) →
      (∀ k pl T, nls b lim m q = .inl (k, pl) → fr [1, v, v + 5] S T → sX T tot k pl → vSx T v → Q (.inr IAE, am_thrown T)) →
      wp X (d + 3) 68 125 [some (.ref v), some (.ref 1), some (.int (nI nd)), some (.int (nI p)), some (.int (nI 4)), some (.int (nI (p + 1))), some (.int (nI l0)), some (.int (nI m0)), some (.int (nI en)), some (.int (nI i))] [] S Q := by
  intro m
  induction m with
  | zero =>
    intro i q l A S hi h hv hl hret hthr
    have hk9 := h.2.2
    iterate 2 refine wp_step rfl rfl ?_
    refine wp_icmp rfl (fun c0 => ?_) (fun c0 => ?_)
    · replace c0 := n_ge_t (a := i) (b := m0) (by omega) (by omega) c0
      have e : i = m0 := by omega
      subst e
      exact hret [] q S rfl (fr_refl _ _) h hv
    · replace c0 := n_ge_f (a := i) (b := m0) (by omega) (by omega) c0
      omega
  | succ m ih =>
    intro i q l A S hi h hv hl hret hthr
    have hk9 := h.2.2
    iterate 2 refine wp_step rfl rfl ?_
    refine wp_icmp rfl (fun c0 => ?_) (fun c0 => ?_)
    · replace c0 := n_ge_t (a := i) (b := m0) (by omega) (by omega) c0
      omega
    · replace c0 := n_ge_f (a := i) (b := m0) (by omega) (by omega) c0
      iterate 2 refine wp_step rfl rfl ?_
      refine wp_icmp_t rfl (by decide) ?_
      iterate 3 refine wp_step rfl rfl ?_
      refine wp_icmp_t rfl (by decide) ?_
      iterate 2 refine wp_step rfl rfl ?_
      refine wp_icmp_f rfl (by decide) ?_
      refine wp_step rfl rfl ?_
      refine wp_c0 rfl rfl (by decide) rfl (recv_ok h.1 rfl) rfl (q_number h (fun z q1 T hu hf hk => ?_) (fun T hu hf hx => ?_))
      · have hu2 := num9_pos hu
        have hv1 := vS_fr hv hf (fun j hj => by simp only [List.mem_cons, List.not_mem_nil, or_false] at hj; omega)
        iterate 3 refine wp_step rfl rfl ?_
        rw [show (z.toInt32.toUInt32 % 65536).toInt32 = nI (c16 z) from pk_char _]
        refine wp_c0 rfl rfl (by decide) rfl (recv_ok hv1.1 rfl) rfl (q_addLetter hv1 (Nat.mod_lt _ (by decide)) (by omega) (fun T2 hf2 hv2 => ?_))
        iterate 2 refine wp_step rfl rfl ?_
        rw [show nI i + Int32.ofInt 1 = nI (i + 1) from nI_add i 1]
        show wp X _ 68 125 [some (.ref v), some (.ref 1), some (.int (nI nd)), some (.int (nI p)), some (.int (nI 4)), some (.int (nI (p + 1))), some (.int (nI l0)), some (.int (nI m0)), some (.int (nI en)), some (.int (nI (i + 1)))] [] T2 Q
        have hk2 := sK_fr hk hf2 (by simp only [List.mem_cons, List.not_mem_nil, or_false, List.mem_range'_1]; omega) (by simp only [List.mem_cons, List.not_mem_nil, or_false, List.mem_range'_1]; omega)
        have hfJ : fr [1, v, v + 5] S T2 := fr_trans (fr_mono hf (fun j hj => by simp only [List.mem_cons, List.not_mem_nil, or_false, List.mem_range'_1] at hj ⊢; omega)) (fr_mono hf2 (fun j hj => by simp only [List.mem_cons, List.not_mem_nil, or_false, List.mem_range'_1] at hj ⊢; omega))
        refine ih (i + 1) q1 (l + 1) _ T2 (by omega) hk2 hv2 (by omega) (fun ls q' T3 e3 hf3 hk3 hv3 => hret (c16 z :: ls) q' T3 (by unfold nls; rw [hu]; dsimp only; rw [e3]) (fr_trans hfJ hf3) hk3 (by rw [List.length_cons, show l + (ls.length + 1) = l + 1 + ls.length by omega]; exact hv3)) (fun k pl T3 e3 hf3 => hthr k pl T3 (by unfold nls; rw [hu]; dsimp only; rw [e3]) (fr_trans hfJ hf3))
      · exact hthr 2 q T (by unfold nls; rw [hu]) (fr_mono hf (fun j hj => by simp only [List.mem_cons, List.not_mem_nil, or_false, List.mem_range'_1] at hj ⊢; omega)) hx ⟨_, _, _, vS_fr hv hf (fun j hj => by simp only [List.mem_cons, List.not_mem_nil, or_false] at hj; omega)⟩
set_option maxHeartbeats 1000000 in
theorem tx_loop5 (hb : ∀ j, b j < 256) (hv3 : 3 ≤ v) {nd p l0 m0 en : Nat} (hm : m0 < 2 ^ 31) :
    ∀ (m i q l : Nat) (A : jVA) (S : am_S), i + m = m0 → sK S b tot q lim idp → vS S v n l A → l < q → q + m ≤ lim →
      (∀ T, fr [1, v, v + 5] S T → sK T b tot (q + m) lim idp → vS T v n (l + m) (ltA A l (bls b m q)) → wp X (d + 3) 68 192 [some (.ref v), some (.ref 1), some (.int (nI nd)), some (.int (nI p)), some (.int (nI 5)), some (.int (nI (p + 1))), some (.int (nI l0)), some (.int (nI m0)), some (.int (nI en)), some (.int (nI m0))] [] T Q) →
      wp X (d + 3) 68 125 [some (.ref v), some (.ref 1), some (.int (nI nd)), some (.int (nI p)), some (.int (nI 5)), some (.int (nI (p + 1))), some (.int (nI l0)), some (.int (nI m0)), some (.int (nI en)), some (.int (nI i))] [] S Q := by
  intro m
  induction m with
  | zero =>
    intro i q l A S hi h hv hl hq hret
    have hk9 := h.2.2
    iterate 2 refine wp_step rfl rfl ?_
    refine wp_icmp rfl (fun c0 => ?_) (fun c0 => ?_)
    · replace c0 := n_ge_t (a := i) (b := m0) (by omega) (by omega) c0
      have e : i = m0 := by omega
      subst e
      exact hret S (fr_refl _ _) h hv
    · replace c0 := n_ge_f (a := i) (b := m0) (by omega) (by omega) c0
      omega
  | succ m ih =>
    intro i q l A S hi h hv hl hq hret
    have hk9 := h.2.2
    iterate 2 refine wp_step rfl rfl ?_
    refine wp_icmp rfl (fun c0 => ?_) (fun c0 => ?_)
    · replace c0 := n_ge_t (a := i) (b := m0) (by omega) (by omega) c0
      omega
    · replace c0 := n_ge_f (a := i) (b := m0) (by omega) (by omega) c0
      iterate 2 refine wp_step rfl rfl ?_
      refine wp_icmp_t rfl (by decide) ?_
      iterate 3 refine wp_step rfl rfl ?_
      refine wp_icmp_t rfl (by decide) ?_
      iterate 2 refine wp_step rfl rfl ?_
      refine wp_icmp_t rfl (by decide) ?_
      refine wp_step rfl rfl ?_
      refine wp_c0 rfl rfl (by decide) rfl (recv_ok h.1 rfl) rfl (q_oneByte h (fun T hu hf hk => ?_) (fun T hu hf hx => ?_))
      · have hbq := hb q
        have hv1 := vS_fr hv hf (fun j hj => by simp only [List.mem_cons, List.not_mem_nil, or_false] at hj; omega)
        refine wp_step rfl rfl ?_
        rw [pk_char, pk_tn (by omega), show b q % 65536 = b q from Nat.mod_eq_of_lt (by omega)]
        refine wp_c0 rfl rfl (by decide) rfl (recv_ok hv1.1 rfl) rfl (q_addLetter hv1 (by omega) (by omega) (fun T2 hf2 hv2 => ?_))
        iterate 2 refine wp_step rfl rfl ?_
        rw [show nI i + Int32.ofInt 1 = nI (i + 1) from nI_add i 1]
        show wp X _ 68 125 [some (.ref v), some (.ref 1), some (.int (nI nd)), some (.int (nI p)), some (.int (nI 5)), some (.int (nI (p + 1))), some (.int (nI l0)), some (.int (nI m0)), some (.int (nI en)), some (.int (nI (i + 1)))] [] T2 Q
        have hk2 := sK_fr hk hf2 (by simp only [List.mem_cons, List.not_mem_nil, or_false, List.mem_range'_1]; omega) (by simp only [List.mem_cons, List.not_mem_nil, or_false, List.mem_range'_1]; omega)
        have hfJ : fr [1, v, v + 5] S T2 := fr_trans (fr_mono hf (fun j hj => by simp only [List.mem_cons, List.not_mem_nil, or_false, List.mem_range'_1] at hj ⊢; omega)) (fr_mono hf2 (fun j hj => by simp only [List.mem_cons, List.not_mem_nil, or_false, List.mem_range'_1] at hj ⊢; omega))
        exact ih (i + 1) (q + 1) (l + 1) _ T2 (by omega) hk2 hv2 (by omega) (by omega) (fun T3 hf3 hk3 hv3 => hret T3 (fr_trans hfJ hf3) (by rw [show q + (m + 1) = q + 1 + m by omega]; exact hk3) (by rw [show l + (m + 1) = l + 1 + m by omega]; exact hv3))
      · omega
set_option maxHeartbeats 1000000 in
theorem tx_loop3 (hb : ∀ j, b j < 256) (hv3 : 3 ≤ v) {nd p l0 m0 en : Nat} (hm : m0 < 2 ^ 31) (hen : en ≤ lim) :
    ∀ (m i q l : Nat) (A : jVA) (S : am_S), i + m = m0 → sK S b tot q lim idp → vS S v n l A → l < q → q ≤ en → en ≤ q + m →
      (∀ ls T, us b en m q = .inr ls → fr [1, v, v + 5] S T → sK T b tot en lim idp → vS T v n (l + ls.length) (ltA A l ls) → ∀ i, i ≤ m0 → wp X (d + 3) 68 192 [some (.ref v), some (.ref 1), some (.int (nI nd)), some (.int (nI p)), some (.int (nI 3)), some (.int (nI (p + 1))), some (.int (nI l0)), some (.int (nI m0)), some (.int (nI en)), some (.int (nI i))] [] T Q) →
      (∀ k pl T, us b en m q = .inl (k, pl) → fr [1, v, v + 5] S T → sX T tot k pl → vSx T v → Q (.inr IAE, am_thrown T)) →
      wp X (d + 3) 68 125 [some (.ref v), some (.ref 1), some (.int (nI nd)), some (.int (nI p)), some (.int (nI 3)), some (.int (nI (p + 1))), some (.int (nI l0)), some (.int (nI m0)), some (.int (nI en)), some (.int (nI i))] [] S Q := by
  intro m
  induction m with
  | zero =>
    intro i q l A S hi h hv hl hq1 hq2 hret hthr
    have hk9 := h.2.2
    iterate 2 refine wp_step rfl rfl ?_
    refine wp_icmp rfl (fun c0 => ?_) (fun c0 => ?_)
    · replace c0 := n_ge_t (a := i) (b := m0) (by omega) (by omega) c0
      exact hret [] S rfl (fr_refl _ _) (by rw [show en = q by omega]; exact h) hv i (by omega)
    · replace c0 := n_ge_f (a := i) (b := m0) (by omega) (by omega) c0
      omega
  | succ m ih =>
    intro i q l A S hi h hv hl hq1 hq2 hret hthr
    have hk9 := h.2.2
    iterate 2 refine wp_step rfl rfl ?_
    refine wp_icmp rfl (fun c0 => ?_) (fun c0 => ?_)
    · replace c0 := n_ge_t (a := i) (b := m0) (by omega) (by omega) c0
      omega
    · replace c0 := n_ge_f (a := i) (b := m0) (by omega) (by omega) c0
      iterate 2 refine wp_step rfl rfl ?_
      refine wp_icmp_f rfl (by decide) ?_
      refine wp_step rfl rfl ?_
      refine wp_getg rfl h.1 (by decide) rfl ?_
      refine wp_step rfl rfl ?_
      refine wp_icmp rfl (fun c1 => ?_) (fun c1 => ?_)
      · replace c1 := n_ge_t (a := q) (b := en) (by omega) (by omega) c1
        exact hret [] S (by unfold us; rw [if_pos c1]) (fr_refl _ _) (by rw [show en = q by omega]; exact h) hv i (by omega)
      · replace c1 := n_ge_f (a := q) (b := en) (by omega) (by omega) c1
        iterate 3 refine wp_step rfl rfl ?_
        refine wp_icmp_f rfl (by decide) ?_
        iterate 2 refine wp_step rfl rfl ?_
        refine wp_c0 rfl rfl (by decide) rfl (recv_ok h.1 rfl) rfl (q_utf8 (stop := en) hb h c1 (by omega) (fun x k T hu hf hk => ?_) (fun T hu hf hx => ?_))
        · have hu2 := u8_ok hu c1
          have hv1 := vS_fr hv hf (fun j hj => by simp only [List.mem_cons, List.not_mem_nil, or_false] at hj; omega)
          refine wp_step rfl rfl ?_
          refine wp_c0 rfl rfl (by decide) rfl (recv_ok hv1.1 rfl) rfl (q_addLetter hv1 hu2.2.2.2 (by omega) (fun T2 hf2 hv2 => ?_))
          iterate 2 refine wp_step rfl rfl ?_
          rw [show nI i + Int32.ofInt 1 = nI (i + 1) from nI_add i 1]
          show wp X _ 68 125 [some (.ref v), some (.ref 1), some (.int (nI nd)), some (.int (nI p)), some (.int (nI 3)), some (.int (nI (p + 1))), some (.int (nI l0)), some (.int (nI m0)), some (.int (nI en)), some (.int (nI (i + 1)))] [] T2 Q
          have hk2 := sK_fr hk hf2 (by simp only [List.mem_cons, List.not_mem_nil, or_false, List.mem_range'_1]; omega) (by simp only [List.mem_cons, List.not_mem_nil, or_false, List.mem_range'_1]; omega)
          have hfJ : fr [1, v, v + 5] S T2 := fr_trans (fr_mono hf (fun j hj => by simp only [List.mem_cons, List.not_mem_nil, or_false, List.mem_range'_1] at hj ⊢; omega)) (fr_mono hf2 (fun j hj => by simp only [List.mem_cons, List.not_mem_nil, or_false, List.mem_range'_1] at hj ⊢; omega))
          refine ih (i + 1) (q + k) (l + 1) _ T2 (by omega) hk2 hv2 (by omega) (by omega) (by omega) (fun ls T3 e3 hf3 hk3 hv3 => hret (x :: ls) T3 (by unfold us; rw [if_neg (by omega), hu]; dsimp only; rw [e3]) (fr_trans hfJ hf3) hk3 (by rw [List.length_cons, show l + (ls.length + 1) = l + 1 + ls.length by omega]; exact hv3)) (fun k pl T3 e3 hf3 => hthr k pl T3 (by unfold us; rw [if_neg (by omega), hu]; dsimp only; rw [e3]) (fr_trans hfJ hf3))
        · exact hthr 6 q T (by unfold us; rw [if_neg (by omega), hu]) (fr_mono hf (fun j hj => by simp only [List.mem_cons, List.not_mem_nil, or_false, List.mem_range'_1] at hj ⊢; omega)) hx ⟨_, _, _, vS_fr hv hf (fun j hj => by simp only [List.mem_cons, List.not_mem_nil, or_false] at hj; omega)⟩
end TEXT
