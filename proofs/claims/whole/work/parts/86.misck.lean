/-! THE MODEL: where a checkpoint begins -/
/-- from q on all heads are good up to e -/
def hok (b : Nat → Nat) (e : Nat) : Nat → Nat → Prop
  | 0, q => e ≤ q
  | f + 1, q => e ≤ q ∨ ∃ len id p1 p2, hd (Bn b) q e = .inr (len, id, p1, p2) ∧ hok b e f (q + len)
def isC (b : Nat → Nat) (e wt : Nat) : Nat → Nat → Bool
  | 0, _ => false
  | f + 1, q => if e ≤ q then false else if q < wt then (match hd (Bn b) q e with
      | .inl _ => false
      | .inr (len, _, _, _) => isC b e wt f (q + len))
    else if q = wt then (match hd (Bn b) q e with
      | .inl _ => false
      | .inr (_, id, _, _) => decide (id = 1)) else false
/-- a checkpoint's row is what stands at its place -/
def cpW (b : Nat → Nat) (e : Nat) (y : jCp) : Prop := y.1 < e ∧ ∃ len p1 p3, hd (Bn b) y.1 e = .inr (len, 1, p1, y.2.2.1) ∧ cnt (Bn b) (y.1 + len) y.2.2.1 = some (y.2.1, p3)
theorem rdCp_cnt {τ : jTT} {b : Nat → Nat} {lim p n : Nat} {ks : List jK} {z : Nat × Nat × Nat × List jK} (h : rdCp τ b lim p n ks = .inr z) : ∃ p3, cnt (Bn b) lim p = some (z.1, p3) := by
  unfold rdCp at h
  cases e1 : cnt (Bn b) lim p with
  | none => rw [e1] at h; cases h
  | some y =>
    obtain ⟨dl, p1⟩ := y
    rw [e1] at h
    dsimp only at h
    cases e2 : cnt (Bn b) lim p1 with
    | none => rw [e2] at h; cases h
    | some y2 =>
      obtain ⟨pools, p2⟩ := y2
      rw [e2] at h
      dsimp only at h
      cases e3 : rdPs τ b lim pools p2 n ks with
      | inl er => rw [e3] at h; cases h
      | inr y3 =>
        obtain ⟨p3, n3, ks3⟩ := y3
        rw [e3] at h
        dsimp only at h
        cases h
        exact ⟨p1, rfl⟩
theorem rdEs_cps {τ : jTT} {b : Nat → Nat} {ci e : Nat} : ∀ (f q : Nat) (st st' : jSt), rdEs τ b ci e f q st = .inr st' → e ≤ q + 2 * f → hok b e f q ∧ ∃ new : List jCp, st'.2.1 = st.2.1 ++ new ∧ (∀ y, y ∈ new → q ≤ y.1 ∧ cpW b e y) ∧ new.Pairwise (fun x y => x.1 < y.1) ∧ ∀ wt, isC b e wt f q = true ↔ ∃ y, y ∈ new ∧ y.1 = wt := by
  intro f
  induction f with
  | zero =>
    intro q st st' h hf
    unfold rdEs at h
    cases h
    exact ⟨by unfold hok; omega, [], by simp, by simp, List.Pairwise.nil, fun wt => by unfold isC; simp⟩
  | succ f ih =>
    intro q st st' h hf
    unfold rdEs at h
    by_cases c0 : e ≤ q
    · rw [if_pos c0] at h
      cases h
      exact ⟨by unfold hok; exact Or.inl c0, [], by simp, by simp, List.Pairwise.nil, fun wt => by unfold isC; rw [if_pos c0]; simp⟩
    · rw [if_neg c0] at h
      unfold rdE1 at h
      cases eh : hd (Bn b) q e with
      | inl er => rw [eh] at h; cases h
      | inr z =>
        obtain ⟨len, id, p1, p2⟩ := z
        have hho := hd_ok eh
        rw [eh] at h
        dsimp only at h
        have go : ∀ (st1 : jSt) (x : List jCp), st1.2.1 = st.2.1 ++ x → (x = [] ∧ id ≠ 1 ∨ ∃ y, x = [y] ∧ y.1 = q ∧ cpW b e y ∧ id = 1) → rdEs τ b ci e f (q + len) st1 = .inr st' → hok b e (f + 1) q ∧ ∃ new : List jCp, st'.2.1 = st.2.1 ++ new ∧ (∀ y, y ∈ new → q ≤ y.1 ∧ cpW b e y) ∧ new.Pairwise (fun x y => x.1 < y.1) ∧ ∀ wt, isC b e wt (f + 1) q = true ↔ ∃ y, y ∈ new ∧ y.1 = wt := by
          intro st1 x hx hxx hr
          obtain ⟨i1, new, i2, i3, i4, i5⟩ := ih (q + len) st1 st' hr (by omega)
          refine ⟨by unfold hok; exact Or.inr ⟨len, id, p1, p2, eh, i1⟩, x ++ new, by rw [i2, hx, List.append_assoc], ?_, ?_, ?_⟩
          · intro y hy
            rcases List.mem_append.mp hy with hy | hy
            · rcases hxx with ⟨g, _⟩ | ⟨y0, g, g1, g2, _⟩
              · rw [g] at hy; simp at hy
              · rw [g] at hy; simp at hy; rw [hy]; exact ⟨by omega, g2⟩
            · exact ⟨by have := (i3 y hy).1; omega, (i3 y hy).2⟩
          · rcases hxx with ⟨g, _⟩ | ⟨y0, g, g1, g2, _⟩
            · rw [g]; simpa using i4
            · rw [g]
              refine List.pairwise_append.mpr ⟨List.pairwise_singleton _ _, i4, ?_⟩
              intro a ha c hc
              simp at ha
              rw [ha, g1]
              have := (i3 c hc).1
              omega
          · intro wt
            unfold isC
            rw [if_neg c0]
            by_cases c1 : q < wt
            · rw [if_pos c1, eh]
              dsimp only
              rw [i5 wt]
              constructor
              · rintro ⟨y, hy, h9⟩
                exact ⟨y, List.mem_append.mpr (Or.inr hy), h9⟩
              · rintro ⟨y, hy, h9⟩
                rcases List.mem_append.mp hy with hy | hy
                · rcases hxx with ⟨g, _⟩ | ⟨y0, g, g1, g2, _⟩
                  · rw [g] at hy; simp at hy
                  · rw [g] at hy; simp at hy; rw [hy, g1] at h9; omega
                · exact ⟨y, hy, h9⟩
            · rw [if_neg c1]
              by_cases c2 : q = wt
              · rw [if_pos c2, eh]
                dsimp only
                rcases hxx with ⟨g, g1⟩ | ⟨y0, g, g1, g2, g3⟩
                · rw [decide_eq_false g1]
                  constructor
                  · intro h9; cases h9
                  · rintro ⟨y, hy, h9⟩
                    rw [g] at hy
                    have := (i3 y (by simpa using hy)).1
                    omega
                · rw [decide_eq_true g3]
                  exact ⟨fun _ => ⟨y0, by rw [g]; simp, by omega⟩, fun _ => rfl⟩
              · rw [if_neg c2]
                constructor
                · intro h9; cases h9
                · rintro ⟨y, hy, h9⟩
                  rcases List.mem_append.mp hy with hy | hy
                  · rcases hxx with ⟨g, _⟩ | ⟨y0, g, g1, g2, _⟩
                    · rw [g] at hy; simp at hy
                    · rw [g] at hy; simp at hy; rw [hy, g1] at h9; omega
                  · have := (i3 y hy).1; omega
        by_cases c1 : id = 1
        · rw [if_pos c1] at h
          cases er : rdCp τ b (q + len) p2 st.1 st.2.2.1 with
          | inl x => rw [er] at h; cases h
          | inr x =>
            obtain ⟨dl, p', n', ks'⟩ := x
            obtain ⟨p9, hc9⟩ := rdCp_cnt er
            rw [er] at h
            dsimp only at h
            by_cases c2 : p' < q + len
            · rw [if_pos c2] at h; cases h
            · rw [if_neg c2] at h
              dsimp only at h
              exact go _ [(q, dl, p2, ks'.length)] rfl (Or.inr ⟨_, rfl, rfl, ⟨by show q < e; omega, len, p1, p9, by rw [← c1]; exact eh, hc9⟩, c1⟩) h
        · rw [if_neg c1] at h
          by_cases c2 : id = 0
          · rw [if_pos c2] at h
            exact go st [] (by simp) (Or.inl ⟨rfl, c1⟩) h
          · rw [if_neg c2] at h
            cases er : rdV τ b (q + len) p1 q p2 st.1 st.2.2.2.length id with
            | inl x => rw [er] at h; cases h
            | inr x =>
              obtain ⟨tk, p3, p', n'⟩ := x
              rw [er] at h
              dsimp only at h
              by_cases c3 : p' < q + len
              · rw [if_pos c3] at h; cases h
              · rw [if_neg c3] at h
                dsimp only at h
                exact go _ [] (by simp) (Or.inl ⟨rfl, c1⟩) h
section MISCK
variable {X : Nat × (Nat → Int32)} {d : Nat} {Q : am_R → Prop} {st : Int64} {b : Nat → Nat} {w : Nat}
set_option maxHeartbeats 1000000 in
theorem ic_loop {s e wt : Nat} (hb : ∀ j, b j < 256) (hw : w ≤ 1) (he : e ≤ 960) (hwt : wt < 2 ^ 31) : ∀ (f q : Nat) (S : am_S) (I : Nat → Int32) (li : Int64), q < 2 ^ 31 → hok b e f q → am_get S 408 = some (moC I st li) → mBy S b w → I 19 = nI w → I 25 = 0 →
    (∀ T J li2, fr [408] S T → gf [21, 22, 57] I J → am_get T 408 = some (moC J st li2) → Q (.inl (some (.int (bI (isC b e wt f q)))), T)) → wp X (d + 4) 123 6 [some (.ref 408), some (.int (nI s)), some (.int (nI e)), some (.int (nI wt)), some (.int (nI q))] [] S Q := by
  intro f
  induction f with
  | zero =>
    intro q S I li hq hk h hB h19 h25 hret
    have hk2 : e ≤ q := hk
    iterate 2 refine wp_step rfl rfl ?_
    refine wp_icmp rfl (fun c0 => ?_) (fun c0 => ?_)
    · replace c0 := n_ge_t (a := q) (b := e) (by omega) (by omega) c0
      · iterate 2 refine wp_step rfl rfl ?_
        refine wp_icmp rfl (fun k1 => ?_) (fun k1 => ?_)
        · replace k1 := n_ne_t (a := q) (b := wt) (by omega) (by omega) k1
          refine wp_step rfl rfl ?_
          refine wp_iret rfl rfl rfl (hret S I li (fr_refl _ _) (gf_refl _ _) h)
        · replace k1 := n_ne_f (a := q) (b := wt) (by omega) (by omega) k1
          iterate 2 refine wp_step rfl rfl ?_
          refine wp_icmp rfl (fun k2 => ?_) (fun k2 => ?_)
          · replace k2 := n_lt_t (a := q) (b := e) (by omega) (by omega) k2
            omega
          · replace k2 := n_lt_f (a := q) (b := e) (by omega) (by omega) k2
            refine wp_step rfl rfl ?_
            refine wp_iret rfl rfl rfl (hret S I li (fr_refl _ _) (gf_refl _ _) h)
    · replace c0 := n_ge_f (a := q) (b := e) (by omega) (by omega) c0
      omega
  | succ f ih =>
    intro q S I li hq hk h hB h19 h25 hret
    iterate 2 refine wp_step rfl rfl ?_
    refine wp_icmp rfl (fun c0 => ?_) (fun c0 => ?_)
    · replace c0 := n_ge_t (a := q) (b := e) (by omega) (by omega) c0
      rw [show isC b e wt (f + 1) q = false by unfold isC; rw [if_pos c0]] at hret
      · iterate 2 refine wp_step rfl rfl ?_
        refine wp_icmp rfl (fun k1 => ?_) (fun k1 => ?_)
        · replace k1 := n_ne_t (a := q) (b := wt) (by omega) (by omega) k1
          refine wp_step rfl rfl ?_
          refine wp_iret rfl rfl rfl (hret S I li (fr_refl _ _) (gf_refl _ _) h)
        · replace k1 := n_ne_f (a := q) (b := wt) (by omega) (by omega) k1
          iterate 2 refine wp_step rfl rfl ?_
          refine wp_icmp rfl (fun k2 => ?_) (fun k2 => ?_)
          · replace k2 := n_lt_t (a := q) (b := e) (by omega) (by omega) k2
            omega
          · replace k2 := n_lt_f (a := q) (b := e) (by omega) (by omega) k2
            refine wp_step rfl rfl ?_
            refine wp_iret rfl rfl rfl (hret S I li (fr_refl _ _) (gf_refl _ _) h)
    · replace c0 := n_ge_f (a := q) (b := e) (by omega) (by omega) c0
      obtain ⟨len, id, p1, p2, eh, hk'⟩ : ∃ len id p1 p2, hd (Bn b) q e = .inr (len, id, p1, p2) ∧ hok b e f (q + len) := by
        unfold hok at hk
        rcases hk with g | g
        · omega
        · exact g
      have hho := hd_ok eh
      iterate 2 refine wp_step rfl rfl ?_
      refine wp_icmp rfl (fun c1 => ?_) (fun c1 => ?_)
      · replace c1 := n_ge_t (a := q) (b := wt) (by omega) (by omega) c1
        iterate 2 refine wp_step rfl rfl ?_
        refine wp_icmp rfl (fun c2 => ?_) (fun c2 => ?_)
        · replace c2 := n_ne_t (a := q) (b := wt) (by omega) (by omega) c2
          rw [show isC b e wt (f + 1) q = false by unfold isC; rw [if_neg (by omega), if_neg (by omega), if_neg c2]] at hret
          refine wp_step rfl rfl ?_
          refine wp_iret rfl rfl rfl (hret S I li (fr_refl _ _) (gf_refl _ _) h)
        · replace c2 := n_ne_f (a := q) (b := wt) (by omega) (by omega) c2
          iterate 2 refine wp_step rfl rfl ?_
          refine wp_icmp rfl (fun c3 => ?_) (fun c3 => ?_)
          · replace c3 := n_lt_t (a := q) (b := e) (by omega) (by omega) c3
            iterate 3 refine wp_step rfl rfl ?_
            refine wp_c0 rfl rfl (by decide) rfl (recv_ok h rfl) rfl (q_mbegins hb h hB h19 h25 hw (by omega) he (fun len2 id2 p12 p22 T J e1 hf1 hg1 hj1 h1 => ?_) (fun k pl T J li2 e1 hf1 hg1 h1 hq1 => ?_))
            · rw [eh] at e1; cases e1
              rw [show isC b e wt (f + 1) q = decide (id = 1) by unfold isC; rw [if_neg (by omega), if_neg (by omega), if_pos c2, eh]] at hret
              iterate 2 refine wp_step rfl rfl ?_
              refine wp_getg (v := (.long (lN id))) rfl h1.1 (by decide) rfl ?_
              iterate 2 refine wp_step rfl rfl ?_
              refine wp_if rfl (fun c4 => ?_) (fun c4 => ?_)
              · replace c4 := l_ne_t c4
                have h91 : id ≠ 1 := fun e9 => c4 ((lN_eq (a := id) (b := 1) (by omega) (by decide)).mpr e9)
                rw [decide_eq_false h91] at hret
                refine wp_step rfl rfl ?_
                refine wp_iret rfl rfl rfl (hret T J _ hf1 hg1 h1.1)
              · replace c4 := l_ne_f c4
                rw [decide_eq_true ((lN_eq (a := id) (b := 1) (by omega) (by decide)).mp c4)] at hret
                iterate 2 refine wp_step rfl rfl ?_
                refine wp_iret rfl rfl rfl (hret T J _ hf1 hg1 h1.1)
            · rw [eh] at e1; cases e1
          · replace c3 := n_lt_f (a := q) (b := e) (by omega) (by omega) c3
            omega
      · replace c1 := n_ge_f (a := q) (b := wt) (by omega) (by omega) c1
        iterate 3 refine wp_step rfl rfl ?_
        refine wp_c0 rfl rfl (by decide) rfl (recv_ok h rfl) rfl (q_mbegins hb h hB h19 h25 hw (by omega) he (fun len2 id2 p12 p22 T J e1 hf1 hg1 hj1 h1 => ?_) (fun k pl T J li2 e1 hf1 hg1 h1 hq1 => ?_))
        · rw [eh] at e1; cases e1
          iterate 2 refine wp_step rfl rfl ?_
          exact ih (q + len) T J _ (by omega) hk' h1.1 h1.2.1 h1.2.2.1 h1.2.2.2.2.2.1 (fun T2 J2 li2 hf2 hg2 h2 => hret T2 J2 li2 (fr_trans hf1 hf2) (gf_trans hg1 hg2) h2 |> fun g => by
            rw [show isC b e wt (f + 1) q = isC b e wt f (q + len) by rw [isC, if_neg (by omega), if_pos c1, eh]] at g
            exact g)
        · rw [eh] at e1; cases e1
theorem q_misck {S : am_S} {I : Nat → Int32} {li : Int64} {s e wt f : Nat} (hb : ∀ j, b j < 256) (hw : w ≤ 1) (he : e ≤ 960) (hwt : wt < 2 ^ 31) (hs : s ≤ 960) (hk : hok b e f (s + 20)) (h : am_get S 408 = some (moC I st li)) (hB : mBy S b w) (h19 : I 19 = nI w) (h25 : I 25 = 0)
    (hret : ∀ T J li2, fr [408] S T → gf [21, 22, 57] I J → am_get T 408 = some (moC J st li2) → Q (.inl (some (.int (bI (isC b e wt f (s + 20))))), T)) : ev X (d + 5) 123 [.ref 408, .int (nI s), .int (nI e), .int (nI wt)] S Q := by
  refine ev_wp (L0 := [some (.ref 408), some (.int (nI s)), some (.int (nI e)), some (.int (nI wt)), none]) (Nat.le_of_ble_eq_true rfl) rfl ?_
  iterate 3 refine wp_step rfl rfl ?_
  rw [show nI s + (Int8.ofInt 20).toInt32 = nI (s + 20) from nI_add s 20]
  refine wp_step rfl rfl ?_
  exact ic_loop hb hw he hwt f (s + 20) S I li (by omega) hk h hB h19 h25 hret
end MISCK
