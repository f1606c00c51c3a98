/-! THE MODEL: which type holds itself -/
theorem hl_t0 : ∀ m : Fin 1024, ∀ u : Fin 10, ((nI m.val >>> (nI u.val &&& 31)) &&& Int32.ofInt 1) = nI (if m.val.testBit u.val = true then 1 else 0) := by decide +kernel
theorem hl_t {m u : Nat} (hm : m < 1024) (hu : u < 10) : ((nI m >>> (nI u &&& 31)) &&& Int32.ofInt 1) = nI (if m.testBit u = true then 1 else 0) := hl_t0 ⟨m, hm⟩ ⟨u, hu⟩
theorem hl_1 : ∀ u : Fin 10, (Int32.ofInt 1 <<< (nI u.val &&& 31)) = nI (2 ^ u.val) := by decide +kernel
theorem tb_or {m u i : Nat} : (m ||| 2 ^ u).testBit i = true ↔ m.testBit i = true ∨ i = u := by
  rw [Nat.testBit_or, Nat.testBit_two_pow, Bool.or_eq_true, decide_eq_true_iff]
  constructor
  · rintro (h | h)
    · exact Or.inl h
    · exact Or.inr h.symm
  · rintro (h | h)
    · exact Or.inl h
    · exact Or.inr h.symm
theorem or_10 {m u : Nat} (hm : m < 1024) (hu : u < 10) : m ||| 2 ^ u < 1024 := Nat.or_lt_two_pow (n := 10) hm (Nat.pow_lt_pow_right (by decide) hu)
theorem pcn_mono {m k : Nat} (h : ∀ i, m.testBit i = true → k.testBit i = true) : ∀ n, pcn m n ≤ pcn k n := by
  intro n
  induction n with
  | zero => exact Nat.le_refl _
  | succ n ih =>
    unfold pcn
    by_cases g : m.testBit n = true
    · rw [if_pos g, if_pos (h n g)]; omega
    · rw [if_neg g]; split <;> omega
theorem pcn_lt {m k u : Nat} (h : ∀ i, m.testBit i = true → k.testBit i = true) (hk : k.testBit u = true) (hm : m.testBit u = false) : ∀ n, u < n → pcn m n < pcn k n := by
  intro n
  induction n with
  | zero => intro hu; omega
  | succ n ih =>
    intro hu
    unfold pcn
    by_cases e : u = n
    · subst e
      rw [if_neg (by rw [hm]; decide), if_pos hk]
      have := pcn_mono h u
      omega
    · have h1 := ih (by omega)
      by_cases g : m.testBit n = true
      · rw [if_pos g, if_pos (h n g)]; omega
      · rw [if_neg g]; split <;> omega
theorem pcn_miss {m u : Nat} (hm : m.testBit u = false) : ∀ n, u < n → pcn m n + 1 ≤ n := by
  intro n
  induction n with
  | zero => intro hu; omega
  | succ n ih =>
    intro hu
    unfold pcn
    by_cases e : u = n
    · subst e
      rw [if_neg (by rw [hm]; decide)]
      have := pcn_le m u
      omega
    · have h1 := ih (by omega)
      split <;> omega
/-- what type t holds, in all -/
def CL (τ : jTT) (t C : Nat) : Prop := (∀ u, edge τ t u → C.testBit u = true) ∧ (∀ v u, C.testBit v = true → edge τ v u → C.testBit u = true) ∧ ∀ Z : Nat → Prop, (∀ u, edge τ t u → Z u) → (∀ v u, Z v → edge τ v u → Z u) → ∀ u, C.testBit u = true → Z u
theorem CL_cyc {τ : jTT} {t C : Nat} (h : CL τ t C) (ht : C.testBit t = true) : ¬ nocyc τ := by
  rintro ⟨rk, _, he⟩
  have h1 := h.2.2 (fun u => rk u < rk t) (fun u g => he t u g) (fun v u g1 g2 => Nat.lt_trans (he v u g2) g1) t ht
  omega
theorem edge_2 {τ : jTT} {t u : Nat} (h : edge τ t u) : t < τ.length ∧ u < τ.length := by
  obtain ⟨x, f, y, h1, h2, h3, h4⟩ := h
  exact ⟨(List.getElem?_eq_some_iff.mp h1).1, (tix_some h4).choose_spec.2.2⟩
theorem CL_no {τ : jTT} (hl : τ.length ≤ 10) (h : ∀ t, t < τ.length → ∃ C, CL τ t C ∧ C.testBit t = false) : nocyc τ := by
  have hc : ∀ t, ∃ C, t < τ.length → CL τ t C ∧ C.testBit t = false := fun t => by
    by_cases g : t < τ.length
    · obtain ⟨C, hC⟩ := h t g; exact ⟨C, fun _ => hC⟩
    · exact ⟨0, fun g2 => absurd g2 g⟩
  refine ⟨fun t => if t < τ.length then pcn (hc t).choose τ.length else 0, fun t => ?_, fun t u he => ?_⟩
  · dsimp only
    split
    · rename_i g
      have := pcn_miss ((hc t).choose_spec g).2 τ.length g
      omega
    · omega
  · obtain ⟨g1, g2⟩ := edge_2 he
    dsimp only
    rw [if_pos g1, if_pos g2]
    obtain ⟨a1, a2⟩ := (hc t).choose_spec g1
    obtain ⟨b1, b2⟩ := (hc u).choose_spec g2
    exact pcn_lt (u := u) (fun i hi => b1.2.2 (fun j => (hc t).choose.testBit j = true) (fun j hj => a1.2.1 u j (a1.1 u he) hj) (fun v j q1 q2 => a1.2.1 v j q1 q2) i hi) (a1.1 u he) b2 τ.length g2
section MHELD
variable {X : Nat × (Nat → Int32)} {d : Nat} {Q : am_R → Prop} {S : am_S} {I : Nat → Int32} {st li : Int64} {M : jMT} {τ : jTT} {sl t : Nat}
set_option maxHeartbeats 1000000 in
theorem hf_loop {fr rd s : Nat} {x : jTy} (h : am_get S 408 = some (moC I st li)) (h20 : I 20 = nI sl) (hM : mTa S M) (hT : mTy M sl τ) (hsl : sl < 8) (hwf : wfT τ) (hfh : fht τ) (hx : τ[s]? = some x) (hFs : mFs M (10 * sl + s) x.2.2.2) (hs10 : s < 10) (hxl : x.2.2.2.length ≤ 8) (hfr : fr < 1024) (hbit : fr.testBit s = true) : ∀ (k f m : Nat) (x8 : Option Value), f + k = x.2.2.2.length → m < 1024 → (∀ f' y, f' < f → x.2.2.2[f']? = some y → ∀ u, y.2.2 % 2 = 0 → tix τ y.2.1 = some u → m.testBit u = true) →
    (∀ m' z7 z8, m' < 1024 → (∀ i, m.testBit i = true → m'.testBit i = true) → (∀ u, m'.testBit u = true → m.testBit u = true ∨ edge τ s u) → (∀ f' y, f' < x.2.2.2.length → x.2.2.2[f']? = some y → ∀ u, y.2.2 % 2 = 0 → tix τ y.2.1 = some u → m'.testBit u = true) → wp X (d + 1) 120 137 [some (.ref 408), some (.int (nI t)), some (.int (nI m')), some (.int (nI fr)), some (.int (nI rd)), some (.int (nI s)), some (.int (nI (10 * sl + s))), z7, z8] [] S Q) → wp X (d + 1) 120 48 [some (.ref 408), some (.int (nI t)), some (.int (nI m)), some (.int (nI fr)), some (.int (nI rd)), some (.int (nI s)), some (.int (nI (10 * sl + s))), some (.int (nI f)), x8] [] S Q := by
  intro k
  induction k with
  | zero =>
    intro f m x8 hf hm hdone hq
    have e9 : f = x.2.2.2.length := by omega
    subst e9
    iterate 2 refine wp_step rfl rfl ?_
    refine wp_getg rfl h (by decide) rfl ?_
    refine wp_step rfl rfl ?_
    refine wp_ald rfl (Or.inl ⟨rfl, rfl⟩) (by decide) hM.2.2.2.2.1 (am_in_nI (by omega) (by decide)) ?_
    rw [nI_clamp (by omega)]
    rw [hFs.1]
    refine wp_icmp rfl (fun c0 => ?_) (fun c0 => ?_)
    · replace c0 := n_ge_t (a := x.2.2.2.length) (b := x.2.2.2.length) (by omega) (by omega) c0
      exact hq m _ _ hm (fun i hi => hi) (fun u hu => Or.inl hu) hdone
    · replace c0 := n_ge_f (a := x.2.2.2.length) (b := x.2.2.2.length) (by omega) (by omega) c0
      omega
  | succ k ih =>
    intro f m x8 hf hm hdone hq
    iterate 2 refine wp_step rfl rfl ?_
    refine wp_getg rfl h (by decide) rfl ?_
    refine wp_step rfl rfl ?_
    refine wp_ald rfl (Or.inl ⟨rfl, rfl⟩) (by decide) hM.2.2.2.2.1 (am_in_nI (by omega) (by decide)) ?_
    rw [nI_clamp (by omega)]
    rw [hFs.1]
    refine wp_icmp rfl (fun c0 => ?_) (fun c0 => ?_)
    · replace c0 := n_ge_t (a := f) (b := x.2.2.2.length) (by omega) (by omega) c0
      omega
    · replace c0 := n_ge_f (a := f) (b := x.2.2.2.length) (by omega) (by omega) c0
      iterate 6 refine wp_step rfl rfl ?_
      rw [hl_t hfr (by omega), if_pos hbit]
      refine wp_icmp_f rfl rfl ?_
      obtain ⟨y, hy⟩ : ∃ y, x.2.2.2[f]? = some y := ⟨_, List.getElem?_eq_getElem c0⟩
      obtain ⟨a1, a2, a3⟩ := hFs.2 f y hy
      have hyo := (wf_fd hwf hx hy).1
      unfold fdOK at hyo
      have nx : ∀ m2 z8, m2 < 1024 → (∀ i, m.testBit i = true → m2.testBit i = true) → (∀ u, m2.testBit u = true → m.testBit u = true ∨ edge τ s u) → (∀ u, y.2.2 % 2 = 0 → tix τ y.2.1 = some u → m2.testBit u = true) → wp X (d + 1) 120 131 [some (.ref 408), some (.int (nI t)), some (.int (nI m2)), some (.int (nI fr)), some (.int (nI rd)), some (.int (nI s)), some (.int (nI (10 * sl + s))), some (.int (nI f)), z8] [] S Q := by
        intro m2 z8 g1 g2 g3 g4
        iterate 2 refine wp_step rfl rfl ?_
        rw [show nI f + Int32.ofInt 1 = nI (f + 1) from nI_add f 1]
        refine ih (f + 1) m2 _ (by omega) g1 (fun f' y' hf' hy' u q1 q2 => ?_) (fun m3 z7 z9 q1 q2 q3 q4 => hq m3 z7 z9 q1 (fun i hi => q2 i (g2 i hi)) (fun u hu => ?_) q4)
        · by_cases e9 : f' = f
          · subst e9; rw [hy] at hy'; cases hy'; exact g4 u q1 q2
          · exact g2 u (hdone f' y' (by omega) hy' u q1 q2)
        · rcases q3 u hu with q5 | q5
          · exact g3 u q5
          · exact Or.inr q5
      iterate 5 refine wp_step rfl rfl ?_
      rw [show (Int8.ofInt 8).toInt32 * nI (10 * sl + s) = nI (8 * (10 * sl + s)) from pk_mul 8 (10 * sl + s), nI_add]
      refine wp_step rfl rfl ?_
      show wp X (d + 1) 120 80 [some (.ref 408), some (.int (nI t)), some (.int (nI m)), some (.int (nI fr)), some (.int (nI rd)), some (.int (nI s)), some (.int (nI (10 * sl + s))), some (.int (nI f)), some (.int (nI (8 * (10 * sl + s) + f)))] [] S Q
      refine wp_step rfl rfl ?_
      refine wp_getg rfl h (by decide) rfl ?_
      refine wp_step rfl rfl ?_
      refine wp_lald rfl (by decide) hM.2.2.2.2.2.2.1 (am_in_nI (by omega) (by decide)) ?_
      rw [nI_clamp (by omega)]
      rw [a2]
      iterate 2 refine wp_step rfl rfl ?_
      refine wp_if rfl (fun c1 => ?_) (fun c1 => ?_)
      · replace c1 := l_le_t c1
        refine nx m _ hm (fun i hi => hi) (fun u hu => Or.inl hu) (fun u q1 q2 => ?_)
        have h16 := tix_ten hwf q2
        have h9 : y.2.1 ≤ 10 := (lN_le (by omega) (by decide)).mp c1
        omega
      · replace c1 := l_le_f c1
        have hy10 : 10 < y.2.1 := by
          by_cases g : 10 < y.2.1
          · exact g
          · exact absurd ((lN_le (by omega) (by decide)).mpr (show y.2.1 ≤ 10 by omega)) c1
        refine wp_step rfl rfl ?_
        refine wp_getg rfl h (by decide) rfl ?_
        refine wp_step rfl rfl ?_
        refine wp_ald rfl (Or.inl ⟨rfl, rfl⟩) (by decide) hM.2.2.2.2.2.2.2 (am_in_nI (by omega) (by decide)) ?_
        rw [nI_clamp (by omega)]
        rw [a3]
        iterate 2 refine wp_step rfl rfl ?_
        rw [fl_and1 (by omega)]
        refine wp_if rfl (fun c2 => ?_) (fun c2 => ?_)
        · replace c2 := z_ne_t (a := y.2.2 % 2) (by omega) c2
          exact nx m _ hm (fun i hi => hi) (fun u hu => Or.inl hu) (fun u q1 q2 => absurd q1 c2)
        · replace c2 := z_ne_f (a := y.2.2 % 2) (by omega) c2
          obtain ⟨u, x2, hu, hx2, hx20⟩ : ∃ u x2, tix τ y.2.1 = some u ∧ τ[u]? = some x2 ∧ x2.2.2.1 = 0 := by
            rcases hfh s x f y hx hy with g | ⟨u, x2, g1, g2, g3, _⟩
            · omega
            · exact ⟨u, x2, g1, g2, g3⟩
          have hul := (tix_some hu).choose_spec.2.2
          have hwl := hwf.1
          iterate 4 refine wp_step rfl rfl ?_
          refine wp_getg rfl h (by decide) rfl ?_
          refine wp_step rfl rfl ?_
          refine wp_lald rfl (by decide) hM.2.2.2.2.2.2.1 (am_in_nI (by omega) (by decide)) ?_
          rw [nI_clamp (by omega)]
          rw [a2]
          refine wp_step rfl rfl ?_
          refine wp_c0 rfl rfl (by decide) rfl (recv_ok h rfl) rfl (q_mtypeOf (kd := some 0) h h20 hM hT hsl hwf.1 (by omega) (fun k hk => by cases hk; decide) (fun i z hz => by have := (wf_ty hwf hz).1; unfold tyOK at this; omega) ?_)
          rw [show tof τ y.2.1 (some 0) = some u from tixk_of hwf hu hx2 hx20]
          unfold mO
          dsimp only
          iterate 2 refine wp_step rfl rfl ?_
          refine wp_getg (v := (.int (nI sl))) rfl h (by decide) (congrArg Value.int h20) ?_
          iterate 2 refine wp_step rfl rfl ?_
          rw [show (Int8.ofInt 10).toInt32 * nI sl = nI (10 * sl) from pk_mul 10 sl, pk_sub (by omega), show 10 * sl + u - 10 * sl = u by omega]
          iterate 2 refine wp_step rfl rfl ?_
          rw [msk_o hm (by omega)]
          refine wp_step rfl rfl ?_
          refine nx (m ||| 2 ^ u) _ (or_10 hm (by omega)) (fun i hi => tb_or.mpr (Or.inl hi)) (fun v hv => ?_) (fun v q1 q2 => ?_)
          · rcases tb_or.mp hv with q | q
            · exact Or.inl q
            · subst q; exact Or.inr ⟨x, f, y, hx, hy, c2, hu⟩
          · rw [hu] at q2; cases q2; exact tb_or.mpr (Or.inr rfl)
set_option maxHeartbeats 1000000 in
theorem hs_loop {fr rd : Nat} (h : am_get S 408 = some (moC I st li)) (h20 : I 20 = nI sl) (hM : mTa S M) (hT : mTy M sl τ) (hsl : sl < 8) (hwf : wfT τ) (hfh : fht τ) (hfr : fr < 1024) : ∀ (k s m : Nat) (x6 x7 x8 : Option Value), s + k = τ.length → m < 1024 → (∀ s', s' < s → fr.testBit s' = true → ∀ u, edge τ s' u → m.testBit u = true) →
    (∀ m' z5 z6 z7 z8, m' < 1024 → (∀ i, m.testBit i = true → m'.testBit i = true) → (∀ u, m'.testBit u = true → m.testBit u = true ∨ ∃ s, fr.testBit s = true ∧ edge τ s u) → (∀ s', s' < τ.length → fr.testBit s' = true → ∀ u, edge τ s' u → m'.testBit u = true) → wp X (d + 1) 120 143 [some (.ref 408), some (.int (nI t)), some (.int (nI m')), some (.int (nI fr)), some (.int (nI rd)), z5, z6, z7, z8] [] S Q) → wp X (d + 1) 120 19 [some (.ref 408), some (.int (nI t)), some (.int (nI m)), some (.int (nI fr)), some (.int (nI rd)), some (.int (nI s)), x6, x7, x8] [] S Q := by
  have hwl9 := hwf.1
  intro k
  induction k with
  | zero =>
    intro s m x6 x7 x8 hs hm hdone hq
    have e9 : s = τ.length := by omega
    subst e9
    iterate 2 refine wp_step rfl rfl ?_
    refine wp_getg rfl h (by decide) rfl ?_
    refine wp_step rfl rfl ?_
    refine wp_getg (v := (.int (nI sl))) rfl h (by decide) (congrArg Value.int h20) ?_
    refine wp_ald rfl (Or.inl ⟨rfl, rfl⟩) (by decide) hM.1 (am_in_nI (by omega) (by decide)) ?_
    rw [nI_clamp (by omega)]
    rw [hT.1]
    refine wp_icmp rfl (fun c0 => ?_) (fun c0 => ?_)
    · replace c0 := n_ge_t (a := τ.length) (b := τ.length) (by omega) (by omega) c0
      exact hq m _ _ _ _ hm (fun i hi => hi) (fun u hu => Or.inl hu) hdone
    · replace c0 := n_ge_f (a := τ.length) (b := τ.length) (by omega) (by omega) c0
      omega
  | succ k ih =>
    intro s m x6 x7 x8 hs hm hdone hq
    iterate 2 refine wp_step rfl rfl ?_
    refine wp_getg rfl h (by decide) rfl ?_
    refine wp_step rfl rfl ?_
    refine wp_getg (v := (.int (nI sl))) rfl h (by decide) (congrArg Value.int h20) ?_
    refine wp_ald rfl (Or.inl ⟨rfl, rfl⟩) (by decide) hM.1 (am_in_nI (by omega) (by decide)) ?_
    rw [nI_clamp (by omega)]
    rw [hT.1]
    refine wp_icmp rfl (fun c0 => ?_) (fun c0 => ?_)
    · replace c0 := n_ge_t (a := s) (b := τ.length) (by omega) (by omega) c0
      omega
    · replace c0 := n_ge_f (a := s) (b := τ.length) (by omega) (by omega) c0
      obtain ⟨x, hx⟩ : ∃ x, τ[s]? = some x := ⟨_, List.getElem?_eq_getElem c0⟩
      have hwl := hwf.1
      have hxk := (wf_ty hwf hx).1
      unfold tyOK at hxk
      have hFs := (hT.2 s x hx).2.2.2
      have nx : ∀ m2 z7 z8, m2 < 1024 → (∀ i, m.testBit i = true → m2.testBit i = true) → (∀ u, m2.testBit u = true → m.testBit u = true ∨ (fr.testBit s = true ∧ edge τ s u)) → (fr.testBit s = true → ∀ u, edge τ s u → m2.testBit u = true) → wp X (d + 1) 120 137 [some (.ref 408), some (.int (nI t)), some (.int (nI m2)), some (.int (nI fr)), some (.int (nI rd)), some (.int (nI s)), some (.int (nI (10 * sl + s))), z7, z8] [] S Q := by
        intro m2 z7 z8 g1 g2 g3 g4
        iterate 2 refine wp_step rfl rfl ?_
        rw [show nI s + Int32.ofInt 1 = nI (s + 1) from nI_add s 1]
        refine ih (s + 1) m2 _ _ _ (by omega) g1 (fun s' hs' hb' u he => ?_) (fun m3 z5 z6 z7 z8 q1 q2 q3 q4 => hq m3 z5 z6 z7 z8 q1 (fun i hi => q2 i (g2 i hi)) (fun u hu => ?_) q4)
        · by_cases e9 : s' = s
          · subst e9; exact g4 hb' u he
          · exact g2 u (hdone s' (by omega) hb' u he)
        · rcases q3 u hu with q5 | q5
          · rcases g3 u q5 with q6 | q6
            · exact Or.inl q6
            · exact Or.inr ⟨s, q6⟩
          · exact Or.inr q5
      iterate 2 refine wp_step rfl rfl ?_
      refine wp_getg (v := (.int (nI sl))) rfl h (by decide) (congrArg Value.int h20) ?_
      iterate 3 refine wp_step rfl rfl ?_
      rw [show (Int8.ofInt 10).toInt32 * nI sl = nI (10 * sl) from pk_mul 10 sl, nI_add]
      iterate 3 refine wp_step rfl rfl ?_
      show wp X (d + 1) 120 48 [some (.ref 408), some (.int (nI t)), some (.int (nI m)), some (.int (nI fr)), some (.int (nI rd)), some (.int (nI s)), some (.int (nI (10 * sl + s))), some (.int (nI 0)), x8] [] S Q
      cases hbit : fr.testBit s with
      | false =>
        iterate 2 refine wp_step rfl rfl ?_
        refine wp_getg rfl h (by decide) rfl ?_
        refine wp_step rfl rfl ?_
        refine wp_ald rfl (Or.inl ⟨rfl, rfl⟩) (by decide) hM.2.2.2.2.1 (am_in_nI (by omega) (by decide)) ?_
        rw [nI_clamp (by omega)]
        rw [hFs.1]
        refine wp_icmp rfl (fun c1 => ?_) (fun c1 => ?_)
        · replace c1 := n_ge_t (a := 0) (b := x.2.2.2.length) (by omega) (by omega) c1
          exact nx m _ _ hm (fun i hi => hi) (fun u hu => Or.inl hu) (fun h9 => by rw [hbit] at h9; cases h9)
        · replace c1 := n_ge_f (a := 0) (b := x.2.2.2.length) (by omega) (by omega) c1
          iterate 6 refine wp_step rfl rfl ?_
          rw [hl_t hfr (by omega), if_neg (by rw [hbit]; decide)]
          refine wp_icmp_t rfl rfl ?_
          exact nx m _ _ hm (fun i hi => hi) (fun u hu => Or.inl hu) (fun h9 => by rw [hbit] at h9; cases h9)
      | true =>
        refine hf_loop h h20 hM hT hsl hwf hfh hx hFs (by omega) (by omega) hfr hbit x.2.2.2.length 0 m _ (by omega) hm (fun f' y hf' => by omega) (fun m2 z7 z8 g1 g2 g3 g4 => nx m2 z7 z8 g1 g2 (fun u hu => ?_) (fun _ u he => ?_))
        · rcases g3 u hu with q | q
          · exact Or.inl q
          · exact Or.inr ⟨hbit, q⟩
        · obtain ⟨x', f, y, e1, e2, e3, e4⟩ := he
          rw [hx] at e1; cases e1
          exact g4 f y (List.getElem?_eq_some_iff.mp e2).1 e2 u e3 e4
set_option maxHeartbeats 1000000 in
theorem hr_loop (h : am_get S 408 = some (moC I st li)) (h20 : I 20 = nI sl) (hM : mTa S M) (hT : mTy M sl τ) (hsl : sl < 8) (hwf : wfT τ) (hfh : fht τ) (ht : t < τ.length) (hq : ∀ C, CL τ t C → Q (.inl (some (.int (bI (C.testBit t)))), S)) : ∀ (k rd m fr : Nat) (x5 x6 x7 x8 : Option Value), rd + k = 11 → m < 1024 → fr < 1024 → (∀ i, fr.testBit i = true ↔ (i = t ∨ m.testBit i = true)) → (∀ Z : Nat → Prop, (∀ u, edge τ t u → Z u) → (∀ v u, Z v → edge τ v u → Z u) → ∀ u, m.testBit u = true → Z u) → ((∀ s u, fr.testBit s = true → edge τ s u → fr.testBit u = true) ∨ rd + 1 ≤ pcn fr τ.length) → (rd = 11 → CL τ t m) → wp X (d + 1) 120 9 [some (.ref 408), some (.int (nI t)), some (.int (nI m)), some (.int (nI fr)), some (.int (nI rd)), x5, x6, x7, x8] [] S Q := by
  have hwl := hwf.1
  intro k
  induction k with
  | zero =>
    intro rd m fr x5 x6 x7 x8 hrd hm hfr hA hmin hgr hfin
    have e9 : rd = 11 := by omega
    subst e9
    iterate 2 refine wp_step rfl rfl ?_
    refine wp_icmp rfl (fun c0 => ?_) (fun c0 => ?_)
    · replace c0 := n_gt_t (a := 11) (b := 10) (by omega) (by omega) c0
      iterate 6 refine wp_step rfl rfl ?_
      rw [hl_t hm (by omega)]
      have hCL : CL τ t m := hfin rfl
      cases hb9 : m.testBit t with
      | false =>
        rw [if_neg (by decide)]
        refine wp_icmp_t rfl rfl ?_
        refine wp_step rfl rfl ?_
        refine wp_iret rfl rfl rfl (by have h9 := hq m hCL; rw [hb9] at h9; exact h9)
      | true =>
        rw [if_pos rfl]
        refine wp_icmp_f rfl rfl ?_
        iterate 2 refine wp_step rfl rfl ?_
        refine wp_iret rfl rfl rfl (by have h9 := hq m hCL; rw [hb9] at h9; exact h9)
    · replace c0 := n_gt_f (a := 11) (b := 10) (by omega) (by omega) c0
      omega
  | succ k ih =>
    intro rd m fr x5 x6 x7 x8 hrd hm hfr hA hmin hgr hfin
    iterate 2 refine wp_step rfl rfl ?_
    refine wp_icmp rfl (fun c0 => ?_) (fun c0 => ?_)
    · replace c0 := n_gt_t (a := rd) (b := 10) (by omega) (by omega) c0
      omega
    · replace c0 := n_gt_f (a := rd) (b := 10) (by omega) (by omega) c0
      iterate 2 refine wp_step rfl rfl ?_
      show wp X (d + 1) 120 19 [some (.ref 408), some (.int (nI t)), some (.int (nI m)), some (.int (nI fr)), some (.int (nI rd)), some (.int (nI 0)), x6, x7, x8] [] S Q
      refine hs_loop h h20 hM hT hsl hwf hfh hfr τ.length 0 m _ _ _ (by omega) hm (fun s' hs' => by omega) (fun m2 z5 z6 z7 z8 g1 g2 g3 g4 => ?_)
      iterate 3 refine wp_step rfl rfl ?_
      rw [nI_or]
      iterate 3 refine wp_step rfl rfl ?_
      rw [show nI rd + Int32.ofInt 1 = nI (rd + 1) from nI_add rd 1]
      have hor : ∀ i, (fr ||| m2).testBit i = true ↔ (i = t ∨ m2.testBit i = true) := fun i => by
        rw [Nat.testBit_or, Bool.or_eq_true, hA i]
        constructor
        · rintro ((q | q) | q)
          · exact Or.inl q
          · exact Or.inr (g2 i q)
          · exact Or.inr q
        · rintro (q | q)
          · exact Or.inl (Or.inl q)
          · exact Or.inr q
      have hmin2 : ∀ Z : Nat → Prop, (∀ u, edge τ t u → Z u) → (∀ v u, Z v → edge τ v u → Z u) → ∀ u, m2.testBit u = true → Z u := fun Z z1 z2 u hu => by
        rcases g3 u hu with q | ⟨s, q1, q2⟩
        · exact hmin Z z1 z2 u q
        · rcases (hA s).mp q1 with q3 | q3
          · subst q3; exact z1 u q2
          · exact z2 s u (hmin Z z1 z2 s q3) q2
      refine ih (rd + 1) m2 (fr ||| m2) _ _ _ _ (by omega) g1 (Nat.or_lt_two_pow (n := 10) hfr g1) hor hmin2 ?_ (fun e9 => ?_)
      · by_cases hcl : ∀ s u, fr.testBit s = true → edge τ s u → fr.testBit u = true
        · refine Or.inl (fun s u q1 q2 => ?_)
          have hsub : ∀ i, (fr ||| m2).testBit i = true → fr.testBit i = true := fun i hi => by
            rw [Nat.testBit_or, Bool.or_eq_true] at hi
            rcases hi with q | q
            · exact q
            · rcases g3 i q with q3 | ⟨s3, q3, q4⟩
              · exact (hA i).mpr (Or.inr q3)
              · exact hcl s3 i q3 q4
          have := hcl s u (hsub s q1) q2
          rw [Nat.testBit_or, this]; rfl
        · refine Or.inr ?_
          obtain ⟨s, hs1⟩ := Classical.not_forall.mp hcl
          obtain ⟨u, hs2⟩ := Classical.not_forall.mp hs1
          obtain ⟨q1, hs3⟩ := Classical.not_imp.mp hs2
          obtain ⟨q2, q3⟩ := Classical.not_imp.mp hs3
          have hel := edge_2 q2
          have hu2 : m2.testBit u = true := g4 s hel.1 q1 u q2
          have hlt := pcn_lt (m := fr) (k := fr ||| m2) (u := u) (fun i hi => by rw [Nat.testBit_or, hi]; rfl) (by rw [Nat.testBit_or, hu2]; simp) (by simpa using q3) τ.length hel.2
          rcases hgr with q | q
          · exact absurd (q s u q1 q2) q3
          · omega
      · have hr10 : rd = 10 := by omega
        have hcl : ∀ s u, fr.testBit s = true → edge τ s u → fr.testBit u = true := by
          rcases hgr with q | q
          · exact q
          · have := pcn_le fr τ.length
            have := hwf.1
            omega
        have hsub : ∀ i, m2.testBit i = true → fr.testBit i = true := fun i hi => by
          rcases g3 i hi with q3 | ⟨s3, q3, q4⟩
          · exact (hA i).mpr (Or.inr q3)
          · exact hcl s3 i q3 q4
        exact ⟨fun u he => g4 t (edge_2 he).1 ((hA t).mpr (Or.inl rfl)) u he, fun v u q1 q2 => g4 v (edge_2 q2).1 (hsub v q1) u q2, hmin2⟩
theorem q_mheld (h : am_get S 408 = some (moC I st li)) (h20 : I 20 = nI sl) (hM : mTa S M) (hT : mTy M sl τ) (hsl : sl < 8) (hwf : wfT τ) (hfh : fht τ) (ht : t < τ.length) (hq : ∀ C, CL τ t C → Q (.inl (some (.int (bI (C.testBit t)))), S)) : ev X (d + 2) 120 [.ref 408, .int (nI t)] S Q := by
  refine ev_wp (L0 := [some (.ref 408), some (.int (nI t)), none, none, none, none, none, none, none]) (Nat.le_of_ble_eq_true rfl) rfl ?_
  iterate 5 refine wp_step rfl rfl ?_
  rw [hl_1 ⟨t, by have := hwf.1; omega⟩]
  iterate 3 refine wp_step rfl rfl ?_
  show wp X (d + 1) 120 9 [some (.ref 408), some (.int (nI t)), some (.int (nI 0)), some (.int (nI (2 ^ t))), some (.int (nI 0)), none, none, none, none] [] S Q
  have htb : ∀ i, (2 ^ t).testBit i = true ↔ i = t := fun i => by rw [Nat.testBit_two_pow, decide_eq_true_iff]; exact ⟨fun h => h.symm, fun h => h.symm⟩
  refine hr_loop h h20 hM hT hsl hwf hfh ht hq 11 0 0 (2 ^ t) none none none none (by omega) (by decide) (Nat.pow_lt_pow_right (a := 2) (m := t) (n := 10) (by decide) (by have := hwf.1; omega)) (fun i => ?_) (fun Z _ _ u hu => by simp at hu) (Or.inr ?_) (fun e9 => by omega)
  · rw [htb]; simp
  · have := pcn_lt (m := 0) (k := 2 ^ t) (u := t) (fun i hi => by simp at hi) ((htb t).mpr rfl) (by simp) τ.length ht
    omega
end MHELD
