/-! Values.read -/
theorem DS_agR {D D' : Nat → Nat → Nat → Nat → Nat → Nat → Nat → Nat → Prop} {N0 N1 M0 M1 : Nat} (hD : ∀ ty fl p n l p' n' l', D ty fl p n l p' n' l' → n < n' ∧ l ≤ l') (hh : ∀ ty fl p n l p' n' l', D ty fl p n l p' n' l' → N0 ≤ n → n' ≤ N1 → M0 ≤ l → l' ≤ M1 → D' ty fl p n l p' n' l') : ∀ {js : List (Nat × Nat)} {p n l p' n' l' : Nat}, DS D js p n l p' n' l' → N0 ≤ n → n' ≤ N1 → M0 ≤ l → l' ≤ M1 → DS D' js p n l p' n' l' := by
  intro js
  induction js with
  | nil => intro p n l p' n' l' h _ _ _ _; exact h
  | cons j js ih =>
    intro p n l p' n' l' h h0 h1 h2 h3
    obtain ⟨p1, n1, l1, g1, g2⟩ := h
    have h4 := DS_le hD g2
    have h5 := hD _ _ _ _ _ _ _ _ g1
    exact ⟨p1, n1, l1, hh _ _ _ _ _ _ _ _ g1 h0 (by omega) h2 (by omega), ih g2 (by omega) h1 (by omega) h3⟩
/-- a description holds of other arrays that are the same where it looks -/
theorem DV_agR {τ : jTT} {b : Nat → Nat} {lim N0 N1 M0 M1 : Nat} {A A' : jVA} (ha : ∀ i, N0 ≤ i → i < N1 → A'.1 i = A.1 i ∧ A'.2.1 i = A.2.1 i ∧ A'.2.2.1 i = A.2.2.1 i ∧ A'.2.2.2.1 i = A.2.2.2.1 i) (hb : ∀ i, M0 ≤ i → i < M1 → A'.2.2.2.2 i = A.2.2.2.2 i) : ∀ (h : Nat) (ty fl p n l p' n' l' : Nat), DV τ b lim A h ty fl p n l p' n' l' → N0 ≤ n → n' ≤ N1 → M0 ≤ l → l' ≤ M1 → DV τ b lim A' h ty fl p n l p' n' l' := by
  intro h
  induction h with
  | zero => intro ty fl p n l p' n' l' h; exact h.elim
  | succ h ih =>
    intro ty fl p n l p' n' l' hd k0 k1 k2 k3
    unfold DV at hd ⊢
    obtain ⟨h1, h2, h3, h4⟩ := hd
    obtain ⟨a1, a2, a3, a4⟩ := ha n k0 (by omega)
    refine ⟨by rw [a4]; exact h1, h2, h3, ?_⟩
    rcases h4 with ⟨q1, len, p1, q2, q3, q4, q5⟩ | ⟨q1, q2, q3, v, q4, q5, q6, q7⟩ | ⟨q1, q2, q3, tv, q4, q5⟩ | ⟨q1, q2, q3, q4, q5, v, q6, q7, q8⟩ | ⟨q1, q2, t, x, q3, q4, q5, q6, q7, q8⟩
    · exact Or.inl ⟨q1, len, p1, q2, by rw [a1]; exact q3, by rw [a2]; exact q4, DS_agR (DV_le h) ih q5 (by omega) k1 k2 k3⟩
    · exact Or.inr (Or.inl ⟨q1, q2, q3, v, q4, by rw [a1]; exact q5, by rw [a2]; exact q6, by rw [a3]; exact q7⟩)
    · refine Or.inr (Or.inr (Or.inl ⟨q1, q2, q3, tv, q4, ?_⟩))
      match tv with
      | .inl _ => obtain ⟨g1, g2, g3⟩ := q5; exact ⟨by rw [a1]; exact g1, by rw [a2]; exact g2, g3⟩
      | .inr (.inl w) => obtain ⟨g1, g2, g3, g4⟩ := q5; exact ⟨by rw [a1]; exact g1, by rw [a2]; exact g2, by rw [a3]; exact g3, g4⟩
      | .inr (.inr ls) =>
        obtain ⟨g1, g2, g3, g4, g5⟩ := q5
        refine ⟨by rw [a1]; exact g1, by rw [a2]; exact g2, by rw [a3]; exact g3, g4, fun i x hx => ?_⟩
        have hi := (List.getElem?_eq_some_iff.mp hx).1
        rw [hb (l + i) (by omega) (by omega)]
        exact g5 i x hx
    · exact Or.inr (Or.inr (Or.inr (Or.inl ⟨q1, q2, q3, q4, q5, v, q6, by rw [a1]; exact q7, by rw [a2]; exact q8⟩)))
    · exact Or.inr (Or.inr (Or.inr (Or.inr ⟨q1, q2, t, x, q3, q4, by rw [a1]; exact q5, by rw [a2]; exact q6, by rw [a3]; exact q7, DS_agR (DV_le h) ih q8 (by omega) k1 k2 k3⟩)))
theorem DV_top {τ : jTT} {b : Nat → Nat} {lim : Nat} {A : jVA} {h ty fl p n l p' n' l' : Nat} (hd : DV τ b lim A h ty fl p n l p' n' l') : n' ≤ 1201 ∧ A.2.2.2.1 n = nI n' := by
  cases h with
  | zero => exact hd.elim
  | succ h => unfold DV at hd; exact ⟨hd.2.2.1, hd.1⟩
/-- a type that a value may have -/
def kn (τ : jTT) (ty : Nat) : Prop := (2 ≤ ty ∧ ty ≤ 10) ∨ (10 < ty ∧ ty < 2 ^ 31 ∧ ∃ t, tix τ ty = some t)
theorem kn_good {τ : jTT} (hw : wfT τ) {y : jFd} (h : goodF τ y) : kn τ y.2.1 := by
  rcases h with h | ⟨u, z, h1, h2, _⟩
  · exact Or.inl h
  · obtain ⟨x, e1, e2, _⟩ := tix_some h1
    have h3 := (wf_ty hw e1).1
    unfold tyOK at h3
    exact Or.inr ⟨by omega, by omega, u, h1⟩
abbrev enA (A : jVA) (n : Nat) (z : Int32) : jVA := (A.1, A.2.1, A.2.2.1, upd A.2.2.2.1 n z, A.2.2.2.2)
theorem agr_en {A : jVA} {nd l : Nat} {z : Int32} : agr A (enA A nd z) nd l := ⟨fun i hi => ⟨rfl, rfl, rfl, pk_un (by omega)⟩, fun _ _ => rfl⟩
theorem enA_at {A : jVA} {nd i : Nat} {z : Int32} (h : nd < i) : (enA A nd z).1 i = A.1 i ∧ (enA A nd z).2.1 i = A.2.1 i ∧ (enA A nd z).2.2.1 i = A.2.2.1 i ∧ (enA A nd z).2.2.2.1 i = A.2.2.2.1 i := ⟨rfl, rfl, rfl, pk_un (by omega)⟩
theorem vS_size {S : am_S} {v n l : Nat} {A : jVA} (h : vS S v n l A) (m : Nat) (hm : 1 ≤ m) : vS (am_upd S v (vaC v (nI m) (nI l))) v m l A := by
  obtain ⟨h0, h1, h2, h3, h4, h5, h6, h7, h8⟩ := h
  exact ⟨am_get_self h0, by rw [am_get_ne (by omega)]; exact h1, by rw [am_get_ne (by omega)]; exact h2, by rw [am_get_ne (by omega)]; exact h3, by rw [am_get_ne (by omega)]; exact h4, by rw [am_get_ne (by omega)]; exact h5, hm, h7, h8⟩
section VALUE
variable {X : Nat × (Nat → Int32)} {d : Nat} {b : Nat → Nat} {tot lim idp v c : Nat} {τ : jTT}
/-- what Values.read does with a value that may be h deep -/
def RVP (X : Nat × (Nat → Int32)) (d : Nat) (τ : jTT) (b : Nat → Nat) (tot lim idp v c h : Nat) : Prop := ∀ (ty fl p n l : Nat) (A : jVA) (S : am_S) (Q : am_R → Prop), kn τ ty → fl ≤ 3 → sK S b tot p lim idp → vS S v n l A → ckO S c τ → n ≤ 1201 → l ≤ p →
  (∀ p' n' l' A' T, rv τ b true lim h ty fl p n = .inr (p', n') → fr [1, v, v + 1, v + 2, v + 3, v + 4, v + 5] S T → sK T b tot p' lim idp → vS T v n' l' A' → agr A A' n l → l' ≤ p' → DV τ b lim A' h ty fl p n l p' n' l' → Q (.inl (some (.int (nI n))), T)) →
  (∀ k pl T, rv τ b true lim h ty fl p n = .inl (k, pl) → fr [1, v, v + 1, v + 2, v + 3, v + 4, v + 5] S T → sX T tot k pl → vSx T v → Q (.inr IAE, am_thrown T)) →
  ev X (d + h + 5) 65 [.ref v, .ref 1, .ref c, .int (nI ty), .int (nI fl), .int (nI (21 - h))] S Q
theorem rd_end {Q : am_R → Prop} {S : am_S} {A : jVA} {h ty fl nd n l : Nat} {x7 x8 x9 : Option Value} (hv : vS S v n l A) (hnd : nd < 1201) (hq : ∀ T, fr [v + 4] S T → vS T v n l (enA A nd (nI n)) → Q (.inl (some (.int (nI nd))), T)) :
    wp X d 65 278 [some (.ref v), some (.ref 1), some (.ref c), some (.int (nI ty)), some (.int (nI fl)), some (.int (nI (20 - h))), some (.int (nI nd)), x7, x8, x9] [] S Q := by
  obtain ⟨h0, h1, h2, h3, h4, h5, h6⟩ := id hv
  refine wp_step rfl rfl ?_
  refine wp_getg rfl h0 (by decide) rfl ?_
  iterate 2 refine wp_step rfl rfl ?_
  refine wp_getg rfl h0 (by decide) rfl ?_
  refine wp_ast rfl (Or.inl ⟨rfl, rfl⟩) h4 (am_in_nI (by omega) (by decide)) ?_
  rw [nI_clamp (by omega)]
  refine wp_step rfl rfl ?_
  refine wp_iret rfl rfl rfl (hq _ (fr_up (by simp)) ?_)
  exact ⟨by rw [am_get_ne (by omega)]; exact h0, by rw [am_get_ne (by omega)]; exact h1, by rw [am_get_ne (by omega)]; exact h2, by rw [am_get_ne (by omega)]; exact h3, am_get_self h4, by rw [am_get_ne (by omega)]; exact h5, h6⟩
set_option maxHeartbeats 1000000 in
theorem rd_arr {Q : am_R → Prop} {h ty fl nd len : Nat} (hwf : wfT τ) (hvc : v + 6 ≤ c) (hv3 : 3 ≤ v) (hh : h ≤ 20) (ih : RVP X d τ b tot lim idp v c h) (hkn : kn τ ty) (hfl : fl ≤ 3) (hlen : len < 2 ^ 31) {x9 : Option Value} :
    ∀ (m i p n l : Nat) (A : jVA) (S : am_S), i + m = len → sK S b tot p lim idp → vS S v n l A → ckO S c τ → n ≤ 1201 → l ≤ p →
      (∀ p' n' l' A' T, rvs (rv τ b true lim h) (List.replicate m (ty, fl % 2)) p n = .inr (p', n') → fr [1, v, v + 1, v + 2, v + 3, v + 4, v + 5] S T → sK T b tot p' lim idp → vS T v n' l' A' → agr A A' n l → l' ≤ p' → n' ≤ 1201 → DS (DV τ b lim A' h) (List.replicate m (ty, fl % 2)) p n l p' n' l' → wp X (d + h + 5) 65 278 [some (.ref v), some (.ref 1), some (.ref c), some (.int (nI ty)), some (.int (nI fl)), some (.int (nI (20 - h))), some (.int (nI nd)), some (.int (nI len)), some (.int (nI len)), x9] [] T Q) →
      (∀ k pl T, rvs (rv τ b true lim h) (List.replicate m (ty, fl % 2)) p n = .inl (k, pl) → fr [1, v, v + 1, v + 2, v + 3, v + 4, v + 5] S T → sX T tot k pl → vSx T v → Q (.inr IAE, am_thrown T)) →
      wp X (d + h + 5) 65 71 [some (.ref v), some (.ref 1), some (.ref c), some (.int (nI ty)), some (.int (nI fl)), some (.int (nI (20 - h))), some (.int (nI nd)), some (.int (nI len)), some (.int (nI i)), x9] [] S Q := by
  have hty : ty < 2 ^ 31 := by unfold kn at hkn; omega
  intro m
  induction m with
  | zero =>
    intro i p n l A S hi hk hv hO hn hl hret hthr
    have e9 : i = len := by omega
    subst e9
    iterate 2 refine wp_step rfl rfl ?_
    refine wp_icmp rfl (fun c0 => ?_) (fun c0 => ?_)
    · replace c0 := n_ge_t (a := i) (b := i) (by omega) (by omega) c0
      refine wp_step rfl rfl ?_
      exact hret p n l A S rfl (fr_refl _ _) hk hv (agr_refl _ _ _) hl hn ⟨rfl, rfl, rfl⟩
    · replace c0 := n_ge_f (a := i) (b := i) (by omega) (by omega) c0
      omega
  | succ m ihm =>
    intro i p n l A S hi hk hv hO hn hl hret hthr
    iterate 2 refine wp_step rfl rfl ?_
    refine wp_icmp rfl (fun c0 => ?_) (fun c0 => ?_)
    · replace c0 := n_ge_t (a := i) (b := len) (by omega) (by omega) c0
      omega
    · replace c0 := n_ge_f (a := i) (b := len) (by omega) (by omega) c0
      iterate 7 refine wp_step rfl rfl ?_
      rw [pk_andN (by omega) 1 (by decide)]
      iterate 3 refine wp_step rfl rfl ?_
      rw [show nI (20 - h) + Int32.ofInt 1 = nI (21 - h) from by rw [show (Int32.ofInt 1) = nI 1 from rfl, nI_add, show 20 - h + 1 = 21 - h by omega]]
      refine wp_c0 rfl rfl (by decide) rfl (recv_ok hv.1 rfl) rfl (ih ty (fl % 2 ^ 1) p n l A S _ hkn (by omega) hk hv hO hn hl (fun p1 n1 l1 A1 T e1 hf1 hk1 hv1 ha1 hl1 hd1 => ?_) (fun k pl T e1 hf1 hx1 hs1 => ?_))
      · have hle := DV_le _ _ _ _ _ _ _ _ _ hd1
        have htop := (DV_top hd1).1
        iterate 3 refine wp_step rfl rfl ?_
        rw [show nI i + Int32.ofInt 1 = nI (i + 1) from nI_add i 1]
        refine ihm (i + 1) p1 n1 l1 A1 T (by omega) hk1 hv1 (ckO_fr hO hwf.1 hf1 (fun j hj => by simp only [List.mem_cons, List.not_mem_nil, or_false] at hj; omega)) htop hl1 (fun p' n' l' A' T2 e2 hf2 hk2 hv2 ha2 hl2 hn2 hd2 => ?_) (fun k pl T2 e2 hf2 hx2 hs2 => ?_)
        · refine hret p' n' l' A' T2 ?_ (fr_trans hf1 hf2) hk2 hv2 (agr_trans ha1 ha2 (by omega) (by omega)) hl2 hn2 ?_
          · rw [List.replicate_succ]; unfold rvs; rw [e1]; exact e2
          · rw [List.replicate_succ]; exact ⟨p1, n1, l1, DV_agr ha2 _ _ _ _ _ _ _ _ _ hd1 (Nat.le_refl _) (Nat.le_refl _), hd2⟩
        · exact hthr k pl T2 (by rw [List.replicate_succ]; unfold rvs; rw [e1]; exact e2) (fr_trans hf1 hf2) hx2 hs2
      · exact hthr k pl T (by rw [List.replicate_succ]; unfold rvs; rw [e1]) hf1 hx1 hs1
set_option maxHeartbeats 1000000 in
theorem rd_str {Q : am_R → Prop} {h ty fl nd t : Nat} {x : jTy} (hwf : wfT τ) (hfh : fht τ) (hvc : v + 6 ≤ c) (hv3 : 3 ≤ v) (hc9 : c < 800000) (hh : h ≤ 20) (ih : RVP X d τ b tot lim idp v c h) (hx : τ[t]? = some x) :
    ∀ (m f p n l : Nat) (A : jVA) (S : am_S), f + m = x.2.2.2.length → sK S b tot p lim idp → vS S v n l A → ckO S c τ → n ≤ 1201 → l ≤ p →
      (∀ p' n' l' A' T, rvs (rv τ b true lim h) (fjs (x.2.2.2.drop f)) p n = .inr (p', n') → fr [1, v, v + 1, v + 2, v + 3, v + 4, v + 5] S T → sK T b tot p' lim idp → vS T v n' l' A' → agr A A' n l → l' ≤ p' → n' ≤ 1201 → DS (DV τ b lim A' h) (fjs (x.2.2.2.drop f)) p n l p' n' l' → wp X (d + h + 5) 65 278 [some (.ref v), some (.ref 1), some (.ref c), some (.int (nI ty)), some (.int (nI fl)), some (.int (nI (20 - h))), some (.int (nI nd)), some (.int (nI t)), some (.int (nI x.2.2.2.length)), some (.int (nI x.2.2.2.length))] [] T Q) →
      (∀ k pl T, rvs (rv τ b true lim h) (fjs (x.2.2.2.drop f)) p n = .inl (k, pl) → fr [1, v, v + 1, v + 2, v + 3, v + 4, v + 5] S T → sX T tot k pl → vSx T v → Q (.inr IAE, am_thrown T)) →
      wp X (d + h + 5) 65 228 [some (.ref v), some (.ref 1), some (.ref c), some (.int (nI ty)), some (.int (nI fl)), some (.int (nI (20 - h))), some (.int (nI nd)), some (.int (nI t)), some (.int (nI x.2.2.2.length)), some (.int (nI f))] [] S Q := by
  have hxk := (wf_ty hwf hx).1
  unfold tyOK at hxk
  intro m
  induction m with
  | zero =>
    intro f p n l A S hi hk hv hO hn hl hret hthr
    have hi : f = x.2.2.2.length := by omega
    subst hi
    have hi : x.2.2.2.length = x.2.2.2.length := rfl
    iterate 2 refine wp_step rfl rfl ?_
    refine wp_icmp rfl (fun c0 => ?_) (fun c0 => ?_)
    · replace c0 := n_ge_t (a := x.2.2.2.length) (b := x.2.2.2.length) (by omega) (by omega) c0
      exact hret p n l A S (by rw [List.drop_length]; rfl) (fr_refl _ _) hk hv (agr_refl _ _ _) hl hn (by rw [List.drop_length]; exact ⟨rfl, rfl, rfl⟩)
    · replace c0 := n_ge_f (a := x.2.2.2.length) (b := x.2.2.2.length) (by omega) (by omega) c0
      omega
  | succ m ihm =>
    intro f p n l A S hi hk hv hO hn hl hret hthr
    iterate 2 refine wp_step rfl rfl ?_
    refine wp_icmp rfl (fun c0 => ?_) (fun c0 => ?_)
    · replace c0 := n_ge_t (a := f) (b := x.2.2.2.length) (by omega) (by omega) c0
      omega
    · replace c0 := n_ge_f (a := f) (b := x.2.2.2.length) (by omega) (by omega) c0
      obtain ⟨y, hy⟩ : ∃ y, x.2.2.2[f]? = some y := ⟨x.2.2.2[f], List.getElem?_eq_getElem (by omega)⟩
      have hyk := wf_fd hwf hx hy
      have hyf := hyk.1
      unfold fdOK at hyf
      have hyg := kn_good hwf (hfh t x f y hx hy)
      have hdr : x.2.2.2.drop f = y :: x.2.2.2.drop (f + 1) := by
        rw [List.drop_eq_getElem_cons (by omega)]
        rw [List.getElem?_eq_getElem (by omega)] at hy
        cases hy
        rfl
      have htl := (wf_ty hwf hx).2
      have hwl := hwf.1
      obtain ⟨⟨st, en, tk, fq, nc, g0⟩, ⟨F, g1, gF⟩, g2⟩ := id hO
      obtain ⟨t0, f1, f2, f3, t1, t2, t3, t4⟩ := g2 t x hx
      obtain ⟨u1, u2, u3⟩ := t4 f y hy
      iterate 4 refine wp_step rfl rfl ?_
      refine wp_getg rfl g0 (by decide) rfl ?_
      refine wp_step rfl rfl ?_
      refine wp_aald rfl (by omega) g1 (by decide) (am_in_nI (by omega) (by decide)) ?_
      rw [nI_clamp (by omega)]
      rw [gF t (by omega)]
      refine wp_getg rfl t0 (by decide) rfl ?_
      refine wp_step rfl rfl ?_
      refine wp_ald rfl (Or.inl ⟨rfl, rfl⟩) (by omega) t2 (am_in_nI (by omega) (by decide)) ?_
      rw [nI_clamp (by omega)]
      rw [u2]
      refine wp_step rfl rfl ?_
      refine wp_getg rfl g0 (by decide) rfl ?_
      refine wp_step rfl rfl ?_
      refine wp_aald rfl (by omega) g1 (by decide) (am_in_nI (by omega) (by decide)) ?_
      rw [nI_clamp (by omega)]
      rw [gF t (by omega)]
      refine wp_getg rfl t0 (by decide) rfl ?_
      refine wp_step rfl rfl ?_
      refine wp_ald rfl (Or.inl ⟨rfl, rfl⟩) (by omega) t3 (am_in_nI (by omega) (by decide)) ?_
      rw [nI_clamp (by omega)]
      rw [u3]
      iterate 3 refine wp_step rfl rfl ?_
      rw [show nI (20 - h) + Int32.ofInt 1 = nI (21 - h) from by rw [show (Int32.ofInt 1) = nI 1 from rfl, nI_add, show 20 - h + 1 = 21 - h by omega]]
      refine wp_c0 rfl rfl (by decide) rfl (recv_ok hv.1 rfl) rfl (ih y.2.1 y.2.2 p n l A S _ hyg (by omega) hk hv hO hn hl (fun p1 n1 l1 A1 T e1 hf1 hk1 hv1 ha1 hl1 hd1 => ?_) (fun k pl T e1 hf1 hx1 hs1 => ?_))
      · have hle := DV_le _ _ _ _ _ _ _ _ _ hd1
        have htop := (DV_top hd1).1
        iterate 3 refine wp_step rfl rfl ?_
        rw [show nI f + Int32.ofInt 1 = nI (f + 1) from nI_add f 1]
        refine ihm (f + 1) p1 n1 l1 A1 T (by omega) hk1 hv1 (ckO_fr hO hwf.1 hf1 (fun j hj => by simp only [List.mem_cons, List.not_mem_nil, or_false] at hj; omega)) htop hl1 (fun p' n' l' A' T2 e2 hf2 hk2 hv2 ha2 hl2 hn2 hd2 => ?_) (fun k pl T2 e2 hf2 hx2 hs2 => ?_)
        · refine hret p' n' l' A' T2 ?_ (fr_trans hf1 hf2) hk2 hv2 (agr_trans ha1 ha2 (by omega) (by omega)) hl2 hn2 ?_
          · rw [hdr]; unfold fjs; rw [List.map_cons]; unfold rvs; rw [e1]; exact e2
          · rw [hdr]; unfold fjs; rw [List.map_cons]; exact ⟨p1, n1, l1, DV_agr ha2 _ _ _ _ _ _ _ _ _ hd1 (Nat.le_refl _) (Nat.le_refl _), hd2⟩
        · exact hthr k pl T2 (by rw [hdr]; unfold fjs; rw [List.map_cons]; unfold rvs; rw [e1]; exact e2) (fr_trans hf1 hf2) hx2 hs2
      · exact hthr k pl T (by rw [hdr]; unfold fjs; rw [List.map_cons]; unfold rvs; rw [e1]) hf1 hx1 hs1
theorem fl_and20 : ∀ f : Fin 4, nI f.val &&& Int32.ofInt 2 = nI (f.val / 2 * 2) := by decide
theorem fl_and2 {f : Nat} (h : f < 4) : nI f &&& Int32.ofInt 2 = nI (f / 2 * 2) := fl_and20 ⟨f, h⟩
theorem fl_and10 : ∀ f : Fin 4, nI f.val &&& Int32.ofInt 1 = nI (f.val % 2) := by decide
theorem fl_and1 {f : Nat} (h : f < 4) : nI f &&& Int32.ofInt 1 = nI (f % 2) := fl_and10 ⟨f, h⟩
theorem DX_en {A : jVA} {n l l' : Nat} {z : Int32} {tv : jTV} (h : DX A n l l' tv) : DX (enA A n z) n l l' tv := by
  match tv with
  | .inl _ => exact h
  | .inr (.inl v) => exact h
  | .inr (.inr ls) => exact h
theorem q_read0 (hwf : wfT τ) (hvc : v + 6 ≤ c) (hv3 : 3 ≤ v) : RVP X d τ b tot lim idp v c 0 := by
  intro ty fl p n l A S Q hkn hfl hk hv hO hn hl hret hthr
  have hk9 := hk.2.2
  have hn1 := hv.2.2.2.2.2.2.1
  have hty : ty < 2 ^ 31 := by unfold kn at hkn; omega
  refine ev_wp (L0 := [some (.ref v), some (.ref 1), some (.ref c), some (.int (nI ty)), some (.int (nI fl)), some (.int (nI (21 - 0))), none, none, none, none]) (Nat.le_of_ble_eq_true rfl) rfl ?_
  refine wp_step rfl rfl ?_
  refine wp_getg rfl hv.1 (by decide) rfl ?_
  refine wp_step rfl rfl ?_
  refine wp_icmp rfl (fun c0 => ?_) (fun c0 => ?_)
  · replace c0 := n_gt_t (a := n) (b := 1200) (by omega) (by omega) c0
    iterate 3 refine wp_step rfl rfl ?_
    refine wp_getg rfl hk.1 (by decide) rfl ?_
    exact wp_fl rfl rfl hk (fun T hf hx => hthr 8 p T rfl (fr_mono hf (fun j hj => by simp only [List.mem_cons, List.not_mem_nil, or_false, List.mem_range'_1] at hj ⊢; omega)) hx ⟨_, _, _, vS_fr hv hf (fun j hj => by simp only [List.mem_cons, List.not_mem_nil, or_false] at hj; omega)⟩)
  · replace c0 := n_gt_f (a := n) (b := 1200) (by omega) (by omega) c0
    iterate 2 refine wp_step rfl rfl ?_
    refine wp_icmp rfl (fun c1 => ?_) (fun c1 => ?_)
    · replace c1 := n_le_t (a := 21) (b := 20) (by omega) (by omega) c1
      omega
    · replace c1 := n_le_f (a := 21) (b := 20) (by omega) (by omega) c1
      iterate 3 refine wp_step rfl rfl ?_
      refine wp_getg rfl hk.1 (by decide) rfl ?_
      exact wp_fl rfl rfl hk (fun T hf hx => hthr 8 p T rfl (fr_mono hf (fun j hj => by simp only [List.mem_cons, List.not_mem_nil, or_false, List.mem_range'_1] at hj ⊢; omega)) hx ⟨_, _, _, vS_fr hv hf (fun j hj => by simp only [List.mem_cons, List.not_mem_nil, or_false] at hj; omega)⟩)
set_option maxHeartbeats 2000000 in
theorem q_readS {h : Nat} (hb : ∀ j, b j < 256) (hwf : wfT τ) (hfh : fht τ) (hvc : v + 6 ≤ c) (hv3 : 3 ≤ v) (hc9 : c < 800000) (hh : h ≤ 20) (ih : RVP X d τ b tot lim idp v c h) : RVP X d τ b tot lim idp v c (h + 1) := by
  intro ty fl p n l A S Q hkn hfl hk hv hO hn hl hret hthr
  rw [show 21 - (h + 1) = 20 - h by omega]
  have hk9 := hk.2.2
  have hn1 := hv.2.2.2.2.2.2.1
  have hty : ty < 2 ^ 31 := by unfold kn at hkn; omega
  refine ev_wp (L0 := [some (.ref v), some (.ref 1), some (.ref c), some (.int (nI ty)), some (.int (nI fl)), some (.int (nI (20 - h))), none, none, none, none]) (Nat.le_of_ble_eq_true rfl) rfl ?_
  refine wp_step rfl rfl ?_
  refine wp_getg rfl hv.1 (by decide) rfl ?_
  refine wp_step rfl rfl ?_
  refine wp_icmp rfl (fun c0 => ?_) (fun c0 => ?_)
  · replace c0 := n_gt_t (a := n) (b := 1200) (by omega) (by omega) c0
    iterate 3 refine wp_step rfl rfl ?_
    refine wp_getg rfl hk.1 (by decide) rfl ?_
    exact wp_fl rfl rfl hk (fun T hf hx => hthr 8 p T (by unfold rv; rw [if_pos ⟨rfl, c0⟩]) (fr_mono hf (fun j hj => by simp only [List.mem_cons, List.not_mem_nil, or_false, List.mem_range'_1] at hj ⊢; omega)) hx ⟨_, _, _, vS_fr hv hf (fun j hj => by simp only [List.mem_cons, List.not_mem_nil, or_false] at hj; omega)⟩)
  · replace c0 := n_gt_f (a := n) (b := 1200) (by omega) (by omega) c0
    iterate 2 refine wp_step rfl rfl ?_
    refine wp_icmp rfl (fun c1 => ?_) (fun c1 => ?_)
    · replace c1 := n_le_t (a := 20 - h) (b := 20) (by omega) (by omega) c1
      have cn : ¬ (true = true ∧ 1200 < n) := fun h9 => by have := h9.2; omega
      refine wp_step rfl rfl ?_
      refine wp_getg rfl hv.1 (by decide) rfl ?_
      iterate 3 refine wp_step rfl rfl ?_
      refine wp_getg rfl hv.1 (by decide) rfl ?_
      iterate 2 refine wp_step rfl rfl ?_
      rw [show nI n + Int32.ofInt 1 = nI (n + 1) from nI_add n 1]
      refine wp_putg rfl hv.1 (by decide) rfl rfl ?_
      rw [show va_up (vaG v (nI n) (nI l)) 0 (.int (nI (n + 1))) = vaG v (nI (n + 1)) (nI l) from vaG_0]
      have hvA := vS_size hv (n + 1) (by omega)
      have hfA0 : fr [v] S (am_upd S v (vaC v (nI (n + 1)) (nI l))) := fr_up (by simp)
      generalize am_upd S v (vaC v (nI (n + 1)) (nI l)) = SA at hvA hfA0 ⊢
      have hfA : fr [1, v, v + 1, v + 2, v + 3, v + 4, v + 5] S SA := fr_mono hfA0 (fun j hj => by simp only [List.mem_cons, List.not_mem_nil, or_false, List.mem_range'_1] at hj ⊢; omega)
      have hkA : sK SA b tot p lim idp := sK_fr hk hfA0 (by simp only [List.mem_cons, List.not_mem_nil, or_false, List.mem_range'_1]; omega) (by simp only [List.mem_cons, List.not_mem_nil, or_false, List.mem_range'_1]; omega)
      have hOA := ckO_fr hO hwf.1 hfA (fun j hj => by simp only [List.mem_cons, List.not_mem_nil, or_false] at hj; omega)
      iterate 3 refine wp_step rfl rfl ?_
      rw [show nI fl &&& Int32.ofInt 2 = nI (fl / 2 * 2) from fl_and2 (by omega)]
      show wp X _ 65 47 [some (.ref v), some (.ref 1), some (.ref c), some (.int (nI ty)), some (.int (nI fl)), some (.int (nI (20 - h))), some (.int (nI n)), none, none, none] [.int (nI (fl / 2 * 2))] SA Q
      refine wp_if rfl (fun c2 => ?_) (fun c2 => ?_)
      · replace c2 := z_eq_t (a := fl / 2 * 2) (by omega) c2
        iterate 3 refine wp_step rfl rfl ?_
        rw [show nI fl &&& Int32.ofInt 1 = nI (fl % 2) from fl_and1 (by omega)]
        show wp X _ 65 107 [some (.ref v), some (.ref 1), some (.ref c), some (.int (nI ty)), some (.int (nI fl)), some (.int (nI (20 - h))), some (.int (nI n)), none, none, none] [.int (nI (fl % 2))] SA Q
        refine wp_if rfl (fun c3 => ?_) (fun c3 => ?_)
        · replace c3 := z_eq_t (a := fl % 2) (by omega) c3
          have hfl0 : fl = 0 := by omega
          iterate 2 refine wp_step rfl rfl ?_
          refine wp_icmp rfl (fun c4 => ?_) (fun c4 => ?_)
          · replace c4 := n_ne_t (a := ty) (b := 10) (by omega) (by omega) c4
            iterate 2 refine wp_step rfl rfl ?_
            obtain ⟨⟨st, en, tk, fq, nc, g0⟩, ⟨F, g1, gF⟩, g2⟩ := id hOA
            refine wp_c0 rfl rfl (by decide) rfl (recv_ok g0 rfl) rfl (q_isPlain hty (fun c5 => ?_) (fun c5 => ?_))
            · refine wp_if_f rfl rfl ?_
              iterate 6 refine wp_step rfl rfl ?_
              refine wp_c0 rfl rfl (by decide) rfl (recv_ok hvA.1 rfl) rfl (q_readPlain hb hkA c5.1 (by omega) (fun z p1 T ec hf1 hk1 => ?_) (fun T ec hf1 hx1 => ?_))
              · have hnp := rdP_pos ec
                have hv1 := vS_fr hvA hf1 (fun j hj => by simp only [List.mem_cons, List.not_mem_nil, or_false] at hj; omega)
                refine wp_step rfl rfl ?_
                refine wp_c0 rfl rfl (by decide) rfl (recv_ok hv1.1 rfl) rfl (q_put hv1 (by omega) (fun T2 hf2 hv2 => ?_))
                refine wp_step rfl rfl ?_
                refine rd_end hv2 (by omega) (fun T4 hf4 hv4 => ?_)
                refine hret p1 (n + 1) l _ T4 (by unfold rv; rw [if_neg cn, if_neg (by omega), if_neg (by omega), if_neg (by omega), if_pos (by omega), ec]) (fr_trans hfA (fr_trans (fr_trans (fr_mono hf1 (fun j hj => by simp only [List.mem_cons, List.not_mem_nil, or_false, List.mem_range'_1] at hj ⊢; omega)) (fr_mono hf2 (fun j hj => by simp only [List.mem_cons, List.not_mem_nil, or_false, List.mem_range'_1] at hj ⊢; omega))) (fr_mono hf4 (fun j hj => by simp only [List.mem_cons, List.not_mem_nil, or_false, List.mem_range'_1] at hj ⊢; omega)))) (sK_fr (sK_fr hk1 hf2 (by simp only [List.mem_cons, List.not_mem_nil, or_false, List.mem_range'_1]; omega) (by simp only [List.mem_cons, List.not_mem_nil, or_false, List.mem_range'_1]; omega)) hf4 (by simp only [List.mem_cons, List.not_mem_nil, or_false, List.mem_range'_1]; omega) (by simp only [List.mem_cons, List.not_mem_nil, or_false, List.mem_range'_1]; omega)) hv4 (agr_trans agr_put (agr_en (l := l)) (Nat.le_refl _) (Nat.le_refl _)) (by omega) ?_
                unfold DV
                refine ⟨pk_us, by omega, by omega, Or.inr (Or.inr (Or.inr (Or.inl ⟨hfl0, c5.1, by omega, rfl, rfl, z, ec, pk_us, pk_uLs⟩)))⟩
              · exact hthr 2 p T (by unfold rv; rw [if_neg cn, if_neg (by omega), if_neg (by omega), if_neg (by omega), if_pos (by omega), ec]) (fr_trans hfA (fr_mono hf1 (fun j hj => by simp only [List.mem_cons, List.not_mem_nil, or_false, List.mem_range'_1] at hj ⊢; omega))) hx1 ⟨_, _, _, vS_fr hvA hf1 (fun j hj => by simp only [List.mem_cons, List.not_mem_nil, or_false] at hj; omega)⟩
            · refine wp_if_t rfl rfl ?_
              have hkt : 10 < ty ∧ ∃ t, tix τ ty = some t := by
                rcases hkn with h9 | ⟨h9, _, h8⟩
                · exact absurd h9 c5
                · exact ⟨h9, h8⟩
              obtain ⟨hty10, t, ht⟩ := hkt
              obtain ⟨x, hx, _, htl⟩ := tix_some ht
              have hwl := hwf.1
              have hxk := (wf_ty hwf hx).1
              unfold tyOK at hxk
              obtain ⟨t0, f1, f2, f3, t1, t2, t3, t4⟩ := g2 t x hx
              iterate 2 refine wp_step rfl rfl ?_
              refine wp_c0 rfl rfl (by decide) rfl (recv_ok g0 rfl) rfl (q_tw hwf hOA (by omega) hty ?_)
              rw [ht]
              unfold oI
              refine wp_step rfl rfl ?_
              show wp X _ 65 174 [some (.ref v), some (.ref 1), some (.ref c), some (.int (nI ty)), some (.int (nI fl)), some (.int (nI (20 - h))), some (.int (nI n)), some (.int (nI t)), none, none] [] SA Q
              refine wp_step rfl rfl ?_
              refine wp_if rfl (fun c6 => ?_) (fun c6 => ?_)
              · replace c6 := z_ge_t (a := t) (by omega) c6
                refine wp_step rfl rfl ?_
                refine wp_getg rfl g0 (by decide) rfl ?_
                refine wp_step rfl rfl ?_
                refine wp_aald rfl (by omega) g1 (by decide) (am_in_nI (by omega) (by decide)) ?_
                rw [nI_clamp (by omega)]
                rw [gF t (by omega)]
                refine wp_getg rfl t0 (by decide) rfl ?_
                iterate 4 refine wp_step rfl rfl ?_
                show wp X _ 65 200 [some (.ref v), some (.ref 1), some (.ref c), some (.int (nI ty)), some (.int (nI fl)), some (.int (nI (20 - h))), some (.int (nI n)), some (.int (nI t)), some (.int (nI x.2.2.2.length)), none] [.int (Int8.ofInt 11).toInt32, .int (nI n), .ref v] SA Q
                refine wp_step rfl rfl ?_
                refine wp_if rfl (fun c7 => ?_) (fun c7 => ?_)
                · replace c7 := z_ge_t (a := t) (by omega) c7
                  refine wp_step rfl rfl ?_
                  refine wp_getg rfl g0 (by decide) rfl ?_
                  refine wp_step rfl rfl ?_
                  refine wp_aald rfl (by omega) g1 (by decide) (am_in_nI (by omega) (by decide)) ?_
                  rw [nI_clamp (by omega)]
                  rw [gF t (by omega)]
                  refine wp_getg rfl t0 (by decide) rfl ?_
                  iterate 2 refine wp_step rfl rfl ?_
                  rw [nI_l (by omega)]
                  refine wp_c0 rfl rfl (by decide) rfl (recv_ok hvA.1 rfl) rfl (q_put hvA (by omega) (fun T2 hf2 hv2 => ?_))
                  iterate 2 refine wp_step rfl rfl ?_
                  show wp X _ 65 228 [some (.ref v), some (.ref 1), some (.ref c), some (.int (nI ty)), some (.int (nI fl)), some (.int (nI (20 - h))), some (.int (nI n)), some (.int (nI t)), some (.int (nI x.2.2.2.length)), some (.int (nI 0))] [] T2 Q
                  have hfB : fr [1, v, v + 1, v + 2, v + 3, v + 4, v + 5] S T2 := fr_trans hfA (fr_mono hf2 (fun j hj => by simp only [List.mem_cons, List.not_mem_nil, or_false, List.mem_range'_1] at hj ⊢; omega))
                  have hk2 := sK_fr hkA hf2 (by simp only [List.mem_cons, List.not_mem_nil, or_false, List.mem_range'_1]; omega) (by simp only [List.mem_cons, List.not_mem_nil, or_false, List.mem_range'_1]; omega)
                  have hO2 := ckO_fr hO hwf.1 hfB (fun j hj => by simp only [List.mem_cons, List.not_mem_nil, or_false] at hj; omega)
                  refine rd_str hwf hfh hvc hv3 hc9 (by omega) ih hx x.2.2.2.length 0 p (n + 1) l _ T2 (by omega) hk2 hv2 hO2 (by omega) hl (fun p' n' l' A' T3 e3 hf3 hk3 hv3' ha3 hl3 hn3 hd3 => ?_) (fun k pl T3 e3 hf3 hx3 hs3 => ?_)
                  · rw [List.drop_zero] at e3 hd3
                    have hle := DS_le (DV_le h) hd3
                    refine rd_end hv3' (by omega) (fun T4 hf4 hv4 => ?_)
                    have hp3 := ha3.1 n (by omega)
                    refine hret p' n' l' _ T4 (by unfold rv; rw [if_neg cn, if_neg (by omega), if_neg (by omega), if_neg (by omega), if_neg (by omega), ht]; dsimp only; rw [hx]; exact e3) (fr_trans hfB (fr_trans hf3 (fr_mono hf4 (fun j hj => by simp only [List.mem_cons, List.not_mem_nil, or_false, List.mem_range'_1] at hj ⊢; omega)))) (sK_fr hk3 hf4 (by simp only [List.mem_cons, List.not_mem_nil, or_false, List.mem_range'_1]; omega) (by simp only [List.mem_cons, List.not_mem_nil, or_false, List.mem_range'_1]; omega)) hv4 (agr_trans (agr_trans agr_put ha3 (by omega) (Nat.le_refl _)) (agr_en (l := l)) (Nat.le_refl _) (Nat.le_refl _)) hl3 ?_
                    unfold DV
                    refine ⟨pk_us, by omega, hn3, Or.inr (Or.inr (Or.inr (Or.inr ⟨hfl0, hty10, t, x, ht, hx, hp3.1.trans pk_us, hp3.2.1.trans pk_uLs, hp3.2.2.1.trans pk_us, DS_agR (DV_le h) (DV_agR (N0 := n + 1) (N1 := n') (M0 := 0) (M1 := l') (fun i i0 _ => enA_at (by omega)) (fun i _ _ => rfl) h) hd3 (Nat.le_refl _) (Nat.le_refl _) (Nat.zero_le _) (Nat.le_refl _)⟩)))⟩
                  · rw [List.drop_zero] at e3
                    exact hthr k pl T3 (by unfold rv; rw [if_neg cn, if_neg (by omega), if_neg (by omega), if_neg (by omega), if_neg (by omega), ht]; dsimp only; rw [hx]; exact e3) (fr_trans hfB hf3) hx3 hs3
                · replace c7 := z_ge_f (a := t) (by omega) c7
                  exact c7.elim
              · replace c6 := z_ge_f (a := t) (by omega) c6
                exact c6.elim
          · replace c4 := n_ne_f (a := ty) (b := 10) (by omega) (by omega) c4
            iterate 3 refine wp_step rfl rfl ?_
            refine wp_c0 rfl rfl (by decide) rfl (recv_ok hvA.1 rfl) rfl (q_readText hb hv3 hkA hvA (by omega) hl (fun tv p1 l1 A1 T ec hf1 hk1 hv1 ha1 hd1 => ?_) (fun k pl T ec hf1 hx1 hs1 => ?_))
            · have hxp := rdX_pos ec
              have hll : l1 ≤ p1 := by
                match tv with
                | .inl _ => have := hd1.2.2; omega
                | .inr (.inl w) => have := hd1.2.2.2; omega
                | .inr (.inr ls) => have := hd1.2.2.2.1; have := hxp.2.2 ls rfl; omega
              refine wp_step rfl rfl ?_
              refine rd_end hv1 (by omega) (fun T4 hf4 hv4 => ?_)
              refine hret p1 (n + 1) l1 _ T4 (by unfold rv; rw [if_neg cn, if_neg (by omega), if_neg (by omega), if_pos c4, ec]) (fr_trans hfA (fr_trans (fr_mono hf1 (fun j hj => by simp only [List.mem_cons, List.not_mem_nil, or_false, List.mem_range'_1] at hj ⊢; omega)) (fr_mono hf4 (fun j hj => by simp only [List.mem_cons, List.not_mem_nil, or_false, List.mem_range'_1] at hj ⊢; omega)))) (sK_fr hk1 hf4 (by simp only [List.mem_cons, List.not_mem_nil, or_false, List.mem_range'_1]; omega) (by simp only [List.mem_cons, List.not_mem_nil, or_false, List.mem_range'_1]; omega)) hv4 (agr_trans ha1 (agr_en (l := l)) (Nat.le_refl _) (Nat.le_refl _)) hll ?_
              unfold DV
              refine ⟨pk_us, by omega, by omega, Or.inr (Or.inr (Or.inl ⟨hfl0, c4, rfl, tv, ec, DX_en hd1⟩))⟩
            · exact hthr k pl T (by unfold rv; rw [if_neg cn, if_neg (by omega), if_neg (by omega), if_pos c4, ec]) (fr_trans hfA (fr_mono hf1 (fun j hj => by simp only [List.mem_cons, List.not_mem_nil, or_false, List.mem_range'_1] at hj ⊢; omega))) hx1 hs1
        · replace c3 := z_eq_f (a := fl % 2) (by omega) c3
          iterate 4 refine wp_step rfl rfl ?_
          refine wp_c0 rfl rfl (by decide) rfl (recv_ok hkA.1 rfl) rfl (q_number hkA (fun z p1 T ec hf1 hk1 => ?_) (fun T ec hf1 hx1 => ?_))
          · have hnp := num9_pos ec
            have hv1 := vS_fr hvA hf1 (fun j hj => by simp only [List.mem_cons, List.not_mem_nil, or_false] at hj; omega)
            refine wp_step rfl rfl ?_
            refine wp_c0 rfl rfl (by decide) rfl (recv_ok hv1.1 rfl) rfl (q_put hv1 (by omega) (fun T2 hf2 hv2 => ?_))
            refine wp_step rfl rfl ?_
            refine rd_end hv2 (by omega) (fun T4 hf4 hv4 => ?_)
            refine hret p1 (n + 1) l _ T4 (by unfold rv; rw [if_neg cn, if_neg (by omega), if_pos (by omega), ec]) (fr_trans hfA (fr_trans (fr_trans (fr_mono hf1 (fun j hj => by simp only [List.mem_cons, List.not_mem_nil, or_false, List.mem_range'_1] at hj ⊢; omega)) (fr_mono hf2 (fun j hj => by simp only [List.mem_cons, List.not_mem_nil, or_false, List.mem_range'_1] at hj ⊢; omega))) (fr_mono hf4 (fun j hj => by simp only [List.mem_cons, List.not_mem_nil, or_false, List.mem_range'_1] at hj ⊢; omega)))) (sK_fr (sK_fr hk1 hf2 (by simp only [List.mem_cons, List.not_mem_nil, or_false, List.mem_range'_1]; omega) (by simp only [List.mem_cons, List.not_mem_nil, or_false, List.mem_range'_1]; omega)) hf4 (by simp only [List.mem_cons, List.not_mem_nil, or_false, List.mem_range'_1]; omega) (by simp only [List.mem_cons, List.not_mem_nil, or_false, List.mem_range'_1]; omega)) hv4 (agr_trans agr_put (agr_en (l := l)) (Nat.le_refl _) (Nat.le_refl _)) (by omega) ?_
            unfold DV
            refine ⟨pk_us, by omega, by omega, Or.inr (Or.inl ⟨by omega, rfl, rfl, z, ec, pk_us, pk_uLs, pk_us⟩)⟩
          · exact hthr 2 p T (by unfold rv; rw [if_neg cn, if_neg (by omega), if_pos (by omega), ec]) (fr_trans hfA (fr_mono hf1 (fun j hj => by simp only [List.mem_cons, List.not_mem_nil, or_false, List.mem_range'_1] at hj ⊢; omega))) hx1 ⟨_, _, _, vS_fr hvA hf1 (fun j hj => by simp only [List.mem_cons, List.not_mem_nil, or_false] at hj; omega)⟩
      · replace c2 := z_eq_f (a := fl / 2 * 2) (by omega) c2
        refine wp_step rfl rfl ?_
        refine wp_c0 rfl rfl (by decide) rfl (recv_ok hkA.1 rfl) rfl (q_count hkA (fun m p1 T ec hf1 hk1 => ?_) (fun T ec hf1 hx1 => ?_))
        · have hcl := cnt_lt ec
          have hv1 := vS_fr hvA hf1 (fun j hj => by simp only [List.mem_cons, List.not_mem_nil, or_false] at hj; omega)
          iterate 5 refine wp_step rfl rfl ?_
          iterate 2 refine wp_step rfl rfl ?_
          rw [nI_l hcl.1]
          refine wp_c0 rfl rfl (by decide) rfl (recv_ok hv1.1 rfl) rfl (q_put hv1 (by omega) (fun T2 hf2 hv2 => ?_))
          iterate 2 refine wp_step rfl rfl ?_
          show wp X _ 65 71 [some (.ref v), some (.ref 1), some (.ref c), some (.int (nI ty)), some (.int (nI fl)), some (.int (nI (20 - h))), some (.int (nI n)), some (.int (nI m)), some (.int (nI 0)), none] [] T2 Q
          have hfB : fr [1, v, v + 1, v + 2, v + 3, v + 4, v + 5] S T2 := fr_trans hfA (fr_trans (fr_mono hf1 (fun j hj => by simp only [List.mem_cons, List.not_mem_nil, or_false, List.mem_range'_1] at hj ⊢; omega)) (fr_mono hf2 (fun j hj => by simp only [List.mem_cons, List.not_mem_nil, or_false, List.mem_range'_1] at hj ⊢; omega)))
          have hk2 := sK_fr hk1 hf2 (by simp only [List.mem_cons, List.not_mem_nil, or_false, List.mem_range'_1]; omega) (by simp only [List.mem_cons, List.not_mem_nil, or_false, List.mem_range'_1]; omega)
          have hO2 := ckO_fr hO hwf.1 hfB (fun j hj => by simp only [List.mem_cons, List.not_mem_nil, or_false] at hj; omega)
          refine rd_arr hwf hvc hv3 (by omega) ih hkn hfl hcl.1 m 0 p1 (n + 1) l _ T2 (by omega) hk2 hv2 hO2 (by omega) (by omega) (fun p' n' l' A' T3 e3 hf3 hk3 hv3' ha3 hl3 hn3 hd3 => ?_) (fun k pl T3 e3 hf3 hx3 hs3 => ?_)
          · have hle := DS_le (DV_le h) hd3
            refine rd_end hv3' (by omega) (fun T4 hf4 hv4 => ?_)
            have hp3 := ha3.1 n (by omega)
            refine hret p' n' l' _ T4 (by unfold rv; rw [if_neg cn, if_pos (by omega), ec]; exact e3) (fr_trans hfB (fr_trans hf3 (fr_mono hf4 (fun j hj => by simp only [List.mem_cons, List.not_mem_nil, or_false, List.mem_range'_1] at hj ⊢; omega)))) (sK_fr hk3 hf4 (by simp only [List.mem_cons, List.not_mem_nil, or_false, List.mem_range'_1]; omega) (by simp only [List.mem_cons, List.not_mem_nil, or_false, List.mem_range'_1]; omega)) hv4 (agr_trans (agr_trans agr_put ha3 (by omega) (Nat.le_refl _)) (agr_en (l := l)) (Nat.le_refl _) (Nat.le_refl _)) hl3 ?_
            unfold DV
            refine ⟨pk_us, by omega, hn3, Or.inl ⟨by omega, m, p1, ec, hp3.1.trans pk_us, hp3.2.1.trans pk_uLs, DS_agR (DV_le h) (DV_agR (N0 := n + 1) (N1 := n') (M0 := 0) (M1 := l') (fun i i0 _ => enA_at (by omega)) (fun i _ _ => rfl) h) hd3 (Nat.le_refl _) (Nat.le_refl _) (Nat.zero_le _) (Nat.le_refl _)⟩⟩
          · exact hthr k pl T3 (by unfold rv; rw [if_neg cn, if_pos (by omega), ec]; exact e3) (fr_trans hfB hf3) hx3 hs3
        · exact hthr 2 p T (by unfold rv; rw [if_neg cn, if_pos (by omega), ec]) (fr_trans hfA (fr_mono hf1 (fun j hj => by simp only [List.mem_cons, List.not_mem_nil, or_false, List.mem_range'_1] at hj ⊢; omega))) hx1 ⟨_, _, _, vS_fr hvA hf1 (fun j hj => by simp only [List.mem_cons, List.not_mem_nil, or_false] at hj; omega)⟩
    · replace c1 := n_le_f (a := 20 - h) (b := 20) (by omega) (by omega) c1
      omega
theorem q_readV (hb : ∀ j, b j < 256) (hwf : wfT τ) (hfh : fht τ) (hvc : v + 6 ≤ c) (hv3 : 3 ≤ v) (hc9 : c < 800000) : ∀ h, h ≤ 21 → RVP X d τ b tot lim idp v c h := by
  intro h
  induction h with
  | zero => intro _; exact q_read0 hwf hvc hv3
  | succ h ih => intro hh; exact q_readS hb hwf hfh hvc hv3 hc9 (by omega) (ih (by omega))
end VALUE
