/-! WHAT WAS READ ONCE IS READ AGAIN: values, and the chain's constants -/
theorem rvs_im {f g : Nat → Nat → Nat → Nat → (Int32 × Nat) ⊕ (Nat × Nat)} (hf : ∀ ty fl p n p' n', f ty fl p n = .inr (p', n') → ∀ m, ∃ m', g ty fl p m = .inr (p', m')) : ∀ {js : List (Nat × Nat)} {p n p' n' : Nat}, rvs f js p n = .inr (p', n') → ∀ m, ∃ m', rvs g js p m = .inr (p', m') := by
  intro js
  induction js with
  | nil => intro p n p' n' h m; cases h; exact ⟨m, rfl⟩
  | cons j js ih =>
    intro p n p' n' h m
    obtain ⟨ty, fl⟩ := j
    unfold rvs at h
    split at h
    · cases h
    · rename_i p1 n1 e1
      obtain ⟨m1, e2⟩ := hf _ _ _ _ _ _ e1 m
      obtain ⟨m2, e3⟩ := ih h m1
      exact ⟨m2, by unfold rvs; rw [e2]; exact e3⟩
theorem rv_im {τ : jTT} {b : Nat → Nat} {chk : Bool} {lim lim2 : Nat} (hl : lim ≤ lim2) : ∀ (h h2 : Nat), h ≤ h2 → ∀ (ty fl p n p' n' : Nat), rv τ b chk lim h ty fl p n = .inr (p', n') → ∀ m, ∃ m', rv τ b false lim2 h2 ty fl p m = .inr (p', m') := by
  intro h
  induction h with
  | zero => intro h2 _ ty fl p n p' n' e; cases e
  | succ h ih =>
    intro h2 hh ty fl p n p' n' e m
    obtain ⟨h3, rfl⟩ : ∃ h3, h2 = h3 + 1 := ⟨h2 - 1, by omega⟩
    have ih2 := ih h3 (by omega)
    unfold rv at e
    unfold rv
    rw [if_neg (show ¬ (false = true ∧ 1200 < m) by simp)]
    split at e
    · cases e
    · split at e
      · rename_i c
        rw [if_pos c]
        split at e
        · cases e
        · rename_i len p1 ec
          rw [cnt_mono ec hl]
          exact rvs_im ih2 e (m + 1)
      · rename_i c
        rw [if_neg c]
        split at e
        · rename_i c
          rw [if_pos c]
          split at e
          · cases e
          · rename_i v p1 ec
            rw [num9_mono ec hl]
            cases e
            exact ⟨m + 1, rfl⟩
        · rename_i c
          rw [if_neg c]
          split at e
          · rename_i c
            rw [if_pos c]
            split at e
            · cases e
            · rename_i tv p1 ec
              rw [rdX_mono ec hl]
              cases e
              exact ⟨m + 1, rfl⟩
          · rename_i c
            rw [if_neg c]
            split at e
            · rename_i c
              rw [if_pos c]
              split at e
              · cases e
              · rename_i v p1 ec
                rw [rdP_mono ec hl]
                cases e
                exact ⟨m + 1, rfl⟩
            · rename_i c
              rw [if_neg c]
              cases et : tix τ ty with
              | none => rw [et] at e; cases e; exact ⟨m + 1, rfl⟩
              | some t =>
                rw [et] at e
                dsimp only at e ⊢
                cases ex : τ[t]? with
                | none => rw [ex] at e; cases e; exact ⟨m + 1, rfl⟩
                | some x =>
                  rw [ex] at e
                  dsimp only at e ⊢
                  exact rvs_im ih2 e (m + 1)
/-- a sequence that can be read, can be read up to any of its members -/
theorem rvs_cut {f : Nat → Nat → Nat → Nat → (Int32 × Nat) ⊕ (Nat × Nat)} : ∀ {i : Nat} {js : List (Nat × Nat)} {p n p' n' : Nat} {j : Nat × Nat}, rvs f js p n = .inr (p', n') → js[i]? = some j → ∃ p1 n1 p2 n2, rvs f (js.take i) p n = .inr (p1, n1) ∧ f j.1 j.2 p1 n1 = .inr (p2, n2) := by
  intro i
  induction i with
  | zero =>
    intro js p n p' n' j h hj
    cases js with
    | nil => simp at hj
    | cons x js =>
      obtain ⟨ty, fl⟩ := x
      simp at hj
      subst hj
      unfold rvs at h
      split at h
      · cases h
      · rename_i p1 n1 e1
        exact ⟨p, n, p1, n1, rfl, e1⟩
  | succ i ih =>
    intro js p n p' n' j h hj
    cases js with
    | nil => simp at hj
    | cons x js =>
      obtain ⟨ty, fl⟩ := x
      unfold rvs at h
      split at h
      · cases h
      · rename_i p1 n1 e1
        obtain ⟨p2, n2, p3, n3, g1, g2⟩ := ih h (by simpa using hj)
        exact ⟨p2, n2, p3, n3, by rw [List.take_succ_cons]; unfold rvs; rw [e1]; exact g1, g2⟩
/-- w can be read -/
def rdb (τ : jTT) (b : Nat → Nat) (tot : Nat) (w : jV) : Prop := ∃ p', ∀ m, ∃ m', rv τ b false tot 21 w.1 w.2.1 w.2.2 m = .inr (p', m')
theorem rdb_of {τ : jTT} {b : Nat → Nat} {chk : Bool} {lim tot h n p' n' : Nat} {w : jV} (e : rv τ b chk lim h w.1 w.2.1 w.2.2 n = .inr (p', n')) (hl : lim ≤ tot) (hh : h ≤ 21) : rdb τ b tot w :=
  ⟨p', rv_im hl h 21 hh _ _ _ _ _ _ e⟩
theorem rdb_nv {τ : jTT} {b : Nat → Nat} {tot nd : Nat} {A : jVA} {w : jV} (h : nv τ b tot A nd w) : rdb τ b tot w := by
  obtain ⟨h, lim, l, p', n', l', h1, h2, h3, h4⟩ := h
  exact ⟨p', DV_rv h2 h 21 h1 _ _ _ _ _ _ _ _ h4⟩
def kW (τ : jTT) (b : Nat → Nat) (lim ty : Nat) : Nat → Nat → List jK → Nat → Prop
  | 0, p, L, p' => L = [] ∧ p' = p
  | m + 1, p, L, p' => ∃ key p1 nd p2 L', num9 (Bn b) lim p = some (key, p1) ∧ (∀ n, ∃ n', rv τ b false lim 21 ty 0 p1 n = .inr (p2, n')) ∧ L = (ty, key, p1, nd) :: L' ∧ kW τ b lim ty m p2 L' p'
def pW (τ : jTT) (b : Nat → Nat) (lim : Nat) : Nat → Nat → List jK → Prop
  | 0, _, L => L = []
  | m + 1, p, L => ∃ ty p1 many p2 L1 p3 L2, cnt (Bn b) lim p = some (ty, p1) ∧ okK τ ty = true ∧ cnt (Bn b) lim p1 = some (many, p2) ∧ kW τ b lim ty many p2 L1 p3 ∧ pW τ b lim m p3 L2 ∧ L = L1 ++ L2
theorem rdKs_w {τ : jTT} {b : Nat → Nat} {lim ty : Nat} : ∀ {m p n : Nat} {ks : List jK} {p' n' : Nat} {ks' : List jK}, rdKs τ b lim ty m p n ks = .inr (p', n', ks') → ∃ L, ks' = ks ++ L ∧ kW τ b lim ty m p L p' := by
  intro m
  induction m with
  | zero => intro p n ks p' n' ks' h; cases h; exact ⟨[], by simp, rfl, rfl⟩
  | succ m ih =>
    intro p n ks p' n' ks' h
    unfold rdKs at h
    split at h
    · cases h
    · split at h
      · cases h
      · rename_i key p1 ec
        split at h
        · cases h
        · rename_i p2 n2 e2
          obtain ⟨L, h1, h2⟩ := ih h
          exact ⟨(ty, key, p1, n) :: L, by rw [h1, List.append_assoc]; rfl, key, p1, n, p2, L, ec, rv_im (Nat.le_refl _) 21 21 (Nat.le_refl _) _ _ _ _ _ _ e2, rfl, h2⟩
theorem rdPs_w {τ : jTT} {b : Nat → Nat} {lim : Nat} : ∀ {m p n : Nat} {ks : List jK} {p' n' : Nat} {ks' : List jK}, rdPs τ b lim m p n ks = .inr (p', n', ks') → ∃ L, ks' = ks ++ L ∧ pW τ b lim m p L := by
  intro m
  induction m with
  | zero => intro p n ks p' n' ks' h; cases h; exact ⟨[], by simp, rfl⟩
  | succ m ih =>
    intro p n ks p' n' ks' h
    unfold rdPs at h
    split at h
    · cases h
    · rename_i ty p1 ec
      split at h
      · cases h
      · rename_i hok
        split at h
        · cases h
        · rename_i many p2 ec2
          split at h
          · cases h
          · rename_i p3 n3 ks3 e3
            obtain ⟨L1, g1, g2⟩ := rdKs_w e3
            obtain ⟨L2, g3, g4⟩ := ih h
            exact ⟨L1 ++ L2, by rw [g3, g1, List.append_assoc], ty, p1, many, p2, L1, p3, L2, ec, by simpa using hok, ec2, g2, g4, rfl⟩
/-- what stands at a checkpoint's place -/
def cpL (τ : jTT) (b : Nat → Nat) (e : Nat) (y : jCp) (L : List jK) : Prop := y.1 < e ∧ ∃ len p1 p3 pools p4, hd (Bn b) y.1 e = .inr (len, 1, p1, y.2.2.1) ∧ cnt (Bn b) (y.1 + len) y.2.2.1 = some (y.2.1, p3) ∧ cnt (Bn b) (y.1 + len) p3 = some (pools, p4) ∧ pW τ b (y.1 + len) pools p4 L
def sgI (τ : jTT) (b : Nat → Nat) (e : Nat) (cps : List jCp) (ks : List jK) : Prop := ceA cps cps.length = ks.length ∧ (∀ i, i ≤ cps.length → ceA cps i ≤ ks.length) ∧ ∀ (i : Nat) (y : jCp), cps[i]? = some y → cpL τ b e y (seg cps ks i)
theorem ceA_app {cps : List jCp} {y : jCp} {i : Nat} (h : i ≤ cps.length) : ceA (cps ++ [y]) i = ceA cps i := by
  cases i with
  | zero => rfl
  | succ i =>
    unfold ceA
    dsimp only
    rw [List.getElem?_append_left (by omega)]
theorem sgI_add {τ : jTT} {b : Nat → Nat} {e : Nat} {cps : List jCp} {ks L : List jK} {y : jCp} (h : sgI τ b e cps ks) (hy : y.2.2.2 = (ks ++ L).length) (hL : cpL τ b e y L) : sgI τ b e (cps ++ [y]) (ks ++ L) := by
  obtain ⟨h1, h2, h3⟩ := h
  have hlast : ceA (cps ++ [y]) (cps.length + 1) = (ks ++ L).length := by
    unfold ceA
    dsimp only
    rw [List.getElem?_append_right (by omega)]
    simp [hy]
  have hle : ∀ i, i ≤ (cps ++ [y]).length → ceA (cps ++ [y]) i ≤ (ks ++ L).length := by
    intro i hi
    by_cases c : i ≤ cps.length
    · rw [ceA_app c]
      have := h2 i c
      rw [List.length_append]
      omega
    · rw [List.length_append, List.length_singleton] at hi
      rw [show i = cps.length + 1 by omega, hlast]
      omega
  refine ⟨by rw [List.length_append, List.length_singleton]; exact hlast, hle, fun i x hx => ?_⟩
  by_cases c : i < cps.length
  · rw [List.getElem?_append_left c] at hx
    have g := h3 i x hx
    have e9 : seg (cps ++ [y]) (ks ++ L) i = seg cps ks i := by
      unfold seg
      rw [ceA_app (by omega), ceA_app (by omega), List.take_append_of_le_length (h2 (i + 1) (by omega))]
    rw [e9]
    exact g
  · rw [List.getElem?_append_right (by omega)] at hx
    have hi : i - cps.length = 0 := by
      have := (List.getElem?_eq_some_iff.mp hx).1
      simp at this
      omega
    rw [hi] at hx
    simp at hx
    subst hx
    rw [show i = cps.length by omega]
    have e9 : seg (cps ++ [y]) (ks ++ L) cps.length = L := by
      unfold seg
      rw [hlast, ceA_app (Nat.le_refl _), h1, List.take_length, List.drop_left]
    rw [e9]
    exact hL
theorem rdEs_sg {τ : jTT} {b : Nat → Nat} {ci e : Nat} : ∀ (f q : Nat) (st st' : jSt), rdEs τ b ci e f q st = .inr st' → sgI τ b e st.2.1 st.2.2.1 → sgI τ b e st'.2.1 st'.2.2.1 := by
  intro f
  induction f with
  | zero => intro q st st' h hs; unfold rdEs at h; cases h; exact hs
  | succ f ih =>
    intro q st st' h hs
    unfold rdEs at h
    by_cases c0 : e ≤ q
    · rw [if_pos c0] at h; cases h; exact hs
    · rw [if_neg c0] at h
      unfold rdE1 at h
      cases eh : hd (Bn b) q e with
      | inl er => rw [eh] at h; cases h
      | inr z =>
        obtain ⟨len, id, p1, p2⟩ := z
        rw [eh] at h
        dsimp only at h
        by_cases c1 : id = 1
        · rw [if_pos c1] at h
          subst c1
          unfold rdCp at h
          cases e1 : cnt (Bn b) (q + len) p2 with
          | none => rw [e1] at h; cases h
          | some y1 =>
            obtain ⟨dl, p3⟩ := y1
            rw [e1] at h
            dsimp only at h
            cases e2 : cnt (Bn b) (q + len) p3 with
            | none => rw [e2] at h; cases h
            | some y2 =>
              obtain ⟨pools, p4⟩ := y2
              rw [e2] at h
              dsimp only at h
              cases e3 : rdPs τ b (q + len) pools p4 st.1 st.2.2.1 with
              | inl er => rw [e3] at h; cases h
              | inr y3 =>
                obtain ⟨p5, n5, ks5⟩ := y3
                rw [e3] at h
                dsimp only at h
                by_cases c2 : p5 < q + len
                · rw [if_pos c2] at h; cases h
                · rw [if_neg c2] at h
                  dsimp only at h
                  obtain ⟨L, g1, g2⟩ := rdPs_w e3
                  subst g1
                  exact ih _ _ _ h (sgI_add hs rfl ⟨by show q < e; omega, len, p1, p3, pools, p4, eh, e1, e2, g2⟩)
        · rw [if_neg c1] at h
          by_cases c2 : id = 0
          · rw [if_pos c2] at h
            exact ih _ _ _ h hs
          · rw [if_neg c2] at h
            cases er : rdV τ b (q + len) p1 q p2 st.1 st.2.2.2.length id with
            | inl x => rw [er] at h; cases h
            | inr x =>
              obtain ⟨tk, p3, p', n'⟩ := x
              rw [er] at h
              dsimp only at h
              by_cases c3 : p' < q + len
              · rw [if_pos c3] at h; cases h
              · rw [if_neg c3] at h
                dsimp only at h
                exact ih _ _ _ h hs
/-- the chain from place q on holds L -/
def cW (τ : jTT) (b : Nat → Nat) (e : Nat) : Nat → Nat → List jK → Prop
  | 0, _, _ => False
  | f + 1, q, L => 0 < q ∧ ∃ (y : jCp) (Ls : List jK), y.1 = q ∧ cpL τ b e y Ls ∧ ((y.2.1 = 0 ∧ L = Ls) ∨ (y.2.1 ≠ 0 ∧ y.2.1 < q ∧ ∃ L', L = Ls ++ L' ∧ cW τ b e f (q - y.2.1) L'))
theorem chn_cW {τ : jTT} {b : Nat → Nat} {s e f0 : Nat} {cps : List jCp} {ks : List jK} (hW : chW b s e f0 cps) (hs : sgI τ b e cps ks) : ∀ (f i : Nat) (y : jCp) (L : List jK), i < f → cps[i]? = some y → chn cps ks f i = .inr L → cW τ b e f y.1 L := by
  intro f
  induction f with
  | zero => intro i y L hi; omega
  | succ f ih =>
    intro i y L hi hy h
    obtain ⟨q, dl, dp, ce⟩ := y
    have hq := (hW.2.1 i _ hy).1
    dsimp only at hq
    have hc := hs.2.2 i _ hy
    unfold chn at h
    rw [hy] at h
    dsimp only at h
    unfold cW
    refine ⟨by show 0 < q; omega, (q, dl, dp, ce), _, rfl, hc, ?_⟩
    by_cases c0 : dl = 0
    · rw [if_pos c0] at h
      cases h
      exact Or.inl ⟨c0, rfl⟩
    · rw [if_neg c0] at h
      by_cases c1 : q < dl
      · rw [if_pos c1] at h; cases h
      · rw [if_neg c1] at h
        cases ex : cpx cps (q - dl) with
        | none => rw [ex] at h; cases h
        | some j =>
          rw [ex] at h
          dsimp only at h
          obtain ⟨z, hz, hz1, hzl⟩ := cpx_some ex
          have hz2 := (hW.2.1 j z hz).1
          have hj : j < i := by
            by_cases c2 : j < i
            · exact c2
            · by_cases c3 : i = j
              · subst c3
                rw [hy] at hz
                cases hz
                dsimp only at hz1
                omega
              · have := hW.2.2.1 i j _ z (by omega) hy hz
                dsimp only at this
                omega
          cases en : chn cps ks f j with
          | inl er => rw [en] at h; cases h
          | inr L2 =>
            rw [en] at h
            cases h
            refine Or.inr ⟨c0, by show dl < q; omega, L2, rfl, ?_⟩
            have := ih j z L2 (by omega) hz en
            rw [hz1] at this
            exact this
/-- a chunk's constants stand in its chain -/
def ckW (b : Nat → Nat) (tot : Nat) (ck : jCk) : Prop := ck.1 + 20 ≤ ck.2.1 ∧ ck.2.1 ≤ tot ∧ ck.2.1 = ck.1 + w2 b (ck.1 + 6) ∧ ((w2 b (ck.1 + 10) = 0 ∧ ck.2.2.2 = []) ∨ (w2 b (ck.1 + 10) ≠ 0 ∧ ∃ f, cW ck.2.2.1 b ck.2.1 f (ck.1 + w2 b (ck.1 + 10)) ck.2.2.2))
theorem rdCk_w {b : Nat → Nat} {tot s e : Nat} {re re' : jRe} (ht : tot ≤ 960) (h : rdCk b tot s re = .inr (e, re')) : ∃ ck, re'.2.2 = re.2.2 ++ [ck] ∧ ckW b tot ck := by
  unfold rdCk at h
  split at h
  · cases h
  · cases e1 : rdH b tot s with
    | inl er => rw [e1] at h; cases h
    | inr z =>
      obtain ⟨z1, z2, z3, z4⟩ := rdH_ok e1
      rw [e1] at h
      dsimp only at h
      cases e2 : rdM b s (s + z) with
      | inl er => rw [e2] at h; cases h
      | inr τ =>
        rw [e2] at h
        dsimp only at h
        split at h
        · cases e3 : rdEs τ b re.2.2.length (s + z) 960 (s + 20) (re.1, [], [], re.2.1) with
          | inl er => rw [e3] at h; cases h
          | inr st' =>
            obtain ⟨n', cps, ks, evs⟩ := st'
            rw [e3] at h
            dsimp only at h
            cases e4 : lnk b s cps ks with
            | inl er => rw [e4] at h; cases h
            | inr L =>
              rw [e4] at h
              cases h
              refine ⟨(s, s + z, τ, L), rfl, by show s + 20 ≤ s + z; omega, z3, by show s + z = s + w2 b (s + 6); omega, ?_⟩
              have hW := chW_of e3 (by omega)
              have hs := rdEs_sg _ _ _ _ e3 ⟨rfl, fun i hi => by simp at hi; subst hi; exact Nat.le_refl _, fun i y hy => by simp at hy⟩
              dsimp only at hW hs
              unfold lnk at e4
              by_cases c : w2 b (s + 10) = 0
              · rw [if_pos c] at e4
                cases e4
                exact Or.inl ⟨c, rfl⟩
              · rw [if_neg c] at e4
                cases ex : cpx cps (s + w2 b (s + 10)) with
                | none => rw [ex] at e4; cases e4
                | some i =>
                  rw [ex] at e4
                  dsimp only at e4
                  obtain ⟨y, hy, hy1, hi⟩ := cpx_some ex
                  have := chn_cW hW hs cps.length i y L hi hy e4
                  rw [hy1] at this
                  exact Or.inr ⟨c, cps.length, this⟩
        · cases h
def ckWs (b : Nat → Nat) (tot : Nat) (re : jRe) : Prop := ∀ (i : Nat) (ck : jCk), re.2.2[i]? = some ck → ckW b tot ck
theorem rdO_w {b : Nat → Nat} {tot : Nat} (ht : tot ≤ 960) : ∀ (f s : Nat) (re re' : jRe), rdO b tot f s re = .inr re' → ckWs b tot re → ckWs b tot re' := by
  intro f
  induction f with
  | zero => intro s re re' h hw; unfold rdO at h; cases h; exact hw
  | succ f ih =>
    intro s re re' h hw
    unfold rdO at h
    cases e1 : rdCk b tot s re with
    | inl er => rw [e1] at h; cases h
    | inr x =>
      obtain ⟨e, re1⟩ := x
      rw [e1] at h
      dsimp only at h
      obtain ⟨ck, g1, g2⟩ := rdCk_w ht e1
      have hw1 : ckWs b tot re1 := by
        intro i c hc
        rw [g1] at hc
        by_cases k : i < re.2.2.length
        · rw [List.getElem?_append_left k] at hc
          exact hw i c hc
        · rw [List.getElem?_append_right (by omega)] at hc
          have hi : i - re.2.2.length = 0 := by
            have := (List.getElem?_eq_some_iff.mp hc).1
            simp at this
            omega
          rw [hi] at hc
          simp at hc
          subst hc
          exact g2
      by_cases c : e < tot
      · rw [if_pos c] at h
        exact ih _ _ _ h hw1
      · rw [if_neg c] at h
        cases h
        exact hw1
theorem rdA_w {b : Nat → Nat} {tot : Nat} {re : jRe} (ht : tot ≤ 960) (h : rdA b tot = .inr re) : ckWs b tot re := rdO_w ht _ _ _ _ h (fun i ck hck => by simp at hck)
