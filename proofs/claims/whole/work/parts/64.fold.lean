/-! FlightReader.fold -/
theorem nI_div {a b : Nat} (ha : a < 2 ^ 31) (hb : b < 2 ^ 31) (h0 : 0 < b) : nI a / nI b = nI (a / b) := by
  have h1 : a / b ≤ a := Nat.div_le_self _ _
  apply Int32.toInt_inj.mp
  rw [Int32.toInt_div, nI_toInt ha, nI_toInt hb, nI_toInt (Nat.lt_of_le_of_lt h1 ha), Int.tdiv_eq_ediv_of_nonneg (Int.natCast_nonneg a)]
  have : (a : Int) / (b : Int) = ((a / b : Nat) : Int) := rfl
  rw [this]
  have key : ∀ q : Nat, q ≤ a → Int.bmod (q : Int) (2 ^ 32) = (q : Int) := fun q hq => Int.bmod_eq_of_le (by omega) (by omega)
  exact key (a / b) h1
noncomputable def gat1 (b : Nat → Nat) (tot : Nat) (re : jRe) (path : Int32) (zs : List Int64) (e : Nat) : List Int64 := match re.2.1[e]? with
  | none => zs
  | some y => if isNm b (ldE b tot re y path) = true then ins (wrO b tot re y (ldE b tot re y path)) zs else zs
/-- the numbers that are folded -/
noncomputable def gat (b : Nat → Nat) (tot : Nat) (re : jRe) (path : Int32) (xs : List Nat) : List Int64 := xs.foldl (gat1 b tot re path) []
theorem gat1_len {b : Nat → Nat} {tot : Nat} {re : jRe} {path : Int32} {zs : List Int64} {e : Nat} : (gat1 b tot re path zs e).length ≤ zs.length + 1 := by
  unfold gat1
  split
  · omega
  · split
    · rw [ins_len]; omega
    · omega
theorem gat_len {b : Nat → Nat} {tot : Nat} {re : jRe} {path : Int32} : ∀ (xs : List Nat) (zs : List Int64), (xs.foldl (gat1 b tot re path) zs).length ≤ zs.length + xs.length := by
  intro xs
  induction xs with
  | nil => intro zs; simp
  | cons e xs ih =>
    intro zs
    rw [List.foldl_cons, List.length_cons]
    have h1 := ih (gat1 b tot re path zs e)
    have h2 := gat1_len (b := b) (tot := tot) (re := re) (path := path) (zs := zs) (e := e)
    omega
def fvl (w : Nat) (zs : List Int64) : Int64 := if w = 0 then lN zs.length else if w = 1 then smZ zs else if w = 2 then zs.getD 0 0 else if w = 3 then zs.getD (zs.length - 1) 0 else if w = 4 then mnZ zs else zs.getD (((w - 100) * zs.length + 99) / 100 - 1) 0
def taW (S : am_S) : Prop := ∃ n g, am_get S 399 = some (taC n) ∧ am_get S 400 = some (lA 60 g)
section FOLD
variable {X : Nat × (Nat → Int32)} {d : Nat} {Q : am_R → Prop} {rec sp tot l : Nat} {cc mp : Int32} {b : Nat → Nat} {A : jVA} {E : jEA} {re : jRe} {xs : List Nat} {ch : Nat → Int32}
set_option maxHeartbeats 1000000 in
theorem tc_loop {path : Int32} (hrec : 11 ≤ rec) (hrec9 : rec + 191 ≤ 393) (hx60 : xs.length ≤ 60) (hxs : chD ch xs) (hxe : ∀ e, e ∈ xs → e < re.2.1.length) : ∀ (m i : Nat) (zs : List Int64) (g : Nat → Int64) (x3 : Option Value) (S : am_S), i + m = xs.length → zs.length ≤ i → am_get S 0 = some (frC rec sp (nI xs.length) mp) → reO S b tot rec l A E re → am_get S 398 = some (iA 60 ch) → am_get S 399 = some (taC (nI zs.length)) → am_get S 400 = some (lA 60 g) → tD g zs →
    (∀ zs' g' T, zs' = (xs.drop i).foldl (gat1 b tot re path) zs → fr [399, 400] S T → am_get T 399 = some (taC (nI zs'.length)) → am_get T 400 = some (lA 60 g') → tD g' zs' → Q (.inl none, T)) → wp X (d + 3) 90 10 [some (.ref 0), some (.int path), some (.int (nI i)), x3] [] S Q := by
  intro m
  induction m with
  | zero =>
    intro i zs g x3 S hi hzi h0 hO hch h hg hD hq
    have e9 : i = xs.length := by omega
    subst e9
    iterate 2 refine wp_step rfl rfl ?_
    refine wp_getg rfl h0 (by decide) rfl ?_
    refine wp_icmp rfl (fun c0 => ?_) (fun c0 => ?_)
    · replace c0 := n_ge_t (a := xs.length) (b := xs.length) (by omega) (by omega) c0
      refine wp_vret rfl rfl (hq zs g S (by rw [List.drop_length]; rfl) (fr_refl _ _) h hg hD)
    · replace c0 := n_ge_f (a := xs.length) (b := xs.length) (by omega) (by omega) c0
      omega
  | succ m ih =>
    intro i zs g x3 S hi hzi h0 hO hch h hg hD hq
    iterate 2 refine wp_step rfl rfl ?_
    refine wp_getg rfl h0 (by decide) rfl ?_
    refine wp_icmp rfl (fun c0 => ?_) (fun c0 => ?_)
    · replace c0 := n_ge_t (a := i) (b := xs.length) (by omega) (by omega) c0
      omega
    · replace c0 := n_ge_f (a := i) (b := xs.length) (by omega) (by omega) c0
      obtain ⟨e, he⟩ : ∃ e, xs[i]? = some e := ⟨_, List.getElem?_eq_getElem c0⟩
      have hel := hxe e (mem_at he)
      obtain ⟨y, hy⟩ : ∃ y, re.2.1[e]? = some y := ⟨_, List.getElem?_eq_getElem hel⟩
      have hci := hxs i e he
      have hdr : xs.drop i = e :: xs.drop (i + 1) := by
        rw [List.drop_eq_getElem_cons c0]
        rw [List.getElem?_eq_getElem c0] at he
        cases he
        rfl
      have hr := hO.2.1
      have hv := hO.1
      refine wp_step rfl rfl ?_
      refine wp_getg rfl h0 (by decide) rfl ?_
      refine wp_step rfl rfl ?_
      refine wp_getg rfl h0 (by decide) rfl ?_
      refine wp_step rfl rfl ?_
      refine wp_ald rfl (Or.inl ⟨rfl, rfl⟩) (by decide) hch (am_in_nI (by omega) (by decide)) ?_
      rw [nI_clamp (by omega)]
      rw [hci]
      refine wp_step rfl rfl ?_
      refine wp_c0 rfl rfl (by decide) rfl (recv_ok hr.1 rfl) rfl (q_find (by omega) hO hy (fun ck r hck hrs => ?_))
      refine wp_step rfl rfl ?_
      show wp X (d + 3) 90 33 [some (.ref 0), some (.int path), some (.int (nI i)), some (.int r)] [] S Q
      refine wp_step rfl rfl ?_
      refine wp_getg rfl h0 (by decide) rfl ?_
      refine wp_getg rfl hr.1 (by decide) rfl ?_
      refine wp_step rfl rfl ?_
      refine wp_c0 rfl rfl (by decide) rfl (recv_ok hv.1 rfl) rfl (q_isNum hv (by omega) hrs ?_)
      cases hnm : isNm b (ldE b tot re y path) with
      | false =>
        refine wp_if_t rfl rfl ?_
        iterate 2 refine wp_step rfl rfl ?_
        rw [show nI i + Int32.ofInt 1 = nI (i + 1) from nI_add i 1]
        have e9 : gat1 b tot re path zs e = zs := by unfold gat1; rw [hy]; dsimp only; rw [if_neg (by rw [hnm]; decide)]
        exact ih (i + 1) zs g _ S (by omega) (by omega) h0 hO hch h hg hD (fun zs2 g2 T e2 => hq zs2 g2 T (by rw [hdr, List.foldl_cons, e9]; exact e2))
      | true =>
        refine wp_if_f rfl rfl ?_
        obtain ⟨o, ho⟩ : ∃ o, ldE b tot re y path = some o := by
          cases ho : ldE b tot re y path with
          | none => rw [ho] at hnm; exact absurd (show decide ((2 : Nat) ≤ 0 ∧ (0 : Nat) ≤ 7) = true from hnm) (by decide)
          | some o => exact ⟨o, rfl⟩
        have hrs2 := hrs
        rw [ho] at hrs2
        obtain ⟨nd, e9, hnd, hkd, hk13, hk13b, hw, hz⟩ := rsF_at hv hrs2
        subst e9
        have hwr : A.2.1 nd = wrO b tot re y (ldE b tot re y path) := by
          rw [ho]
          cases o with
          | none => exact hz rfl
          | some w => unfold wrO wrE; dsimp only; rw [hck]; exact (hw w rfl).2
        refine wp_step rfl rfl ?_
        refine wp_getg rfl h0 (by decide) rfl ?_
        refine wp_step rfl rfl ?_
        refine wp_getg rfl h0 (by decide) rfl ?_
        refine wp_getg rfl hr.1 (by decide) rfl ?_
        refine wp_getg rfl hv.1 (by decide) rfl ?_
        refine wp_step rfl rfl ?_
        refine wp_lald rfl (by omega) hv.2.2.1 (am_in_nI (by omega) (by decide)) ?_
        rw [nI_clamp (by omega)]
        rw [hwr]
        refine wp_c0 rfl rfl (by decide) rfl (recv_ok h rfl) rfl (q_taAdd h hg hD (by omega) (fun T g1 hf1 h1 hg1 hD1 => ?_))
        iterate 2 refine wp_step rfl rfl ?_
        rw [show nI i + Int32.ofInt 1 = nI (i + 1) from nI_add i 1]
        have e9 : gat1 b tot re path zs e = ins (wrO b tot re y (ldE b tot re y path)) zs := by unfold gat1; rw [hy]; dsimp only; rw [if_pos hnm]
        exact ih (i + 1) (ins (wrO b tot re y (ldE b tot re y path)) zs) g1 _ T (by omega) (by rw [ins_len]; omega) (by rw [fr_get hf1 (by decide)]; exact h0) (reO_fr hO hf1 (fun j hj => by simp at hj; omega)) (by rw [fr_get hf1 (by decide)]; exact hch) (by rw [ins_len]; exact h1) hg1 hD1 (fun zs2 g2 T2 e2 hf2 => hq zs2 g2 T2 (by rw [hdr, List.foldl_cons, e9]; exact e2) (fr_trans hf1 hf2))
theorem q_tallyChosen {path : Int32} {S : am_S} (hrec : 11 ≤ rec) (hrec9 : rec + 191 ≤ 393) (hx60 : xs.length ≤ 60) (hxs : chD ch xs) (hxe : ∀ e, e ∈ xs → e < re.2.1.length) (h0 : am_get S 0 = some (frC rec sp (nI xs.length) mp)) (hO : reO S b tot rec l A E re) (hch : am_get S 398 = some (iA 60 ch)) (hW : taW S)
    (hq : ∀ g' T, fr [399, 400] S T → am_get T 399 = some (taC (nI (gat b tot re path xs).length)) → am_get T 400 = some (lA 60 g') → tD g' (gat b tot re path xs) → Q (.inl none, T)) : ev X (d + 4) 90 [.ref 0, .int path] S Q := by
  refine ev_wp (L0 := [some (.ref 0), some (.int path), none, none]) (Nat.le_of_ble_eq_true rfl) rfl ?_
  obtain ⟨n, g, h, hg⟩ := hW
  refine wp_step rfl rfl ?_
  refine wp_getg rfl h0 (by decide) rfl ?_
  refine wp_step rfl rfl ?_
  refine wp_putg rfl h (by decide) rfl rfl ?_
  rw [show va_up (taG n) 0 (.int (Int32.ofInt 0)) = taG (nI 0) from taG_0]
  have h1 : am_get (am_upd S 399 (taC (nI 0))) 399 = some (taC (nI 0)) := am_get_self h
  have hf1 : fr [399, 400] S (am_upd S 399 (taC (nI 0))) := fr_up (by simp)
  have hg1 : am_get (am_upd S 399 (taC (nI 0))) 400 = some (lA 60 g) := by rw [am_get_ne (by decide)]; exact hg
  generalize am_upd S 399 (taC (nI 0)) = S1 at h1 hf1 hg1 ⊢
  iterate 2 refine wp_step rfl rfl ?_
  refine tc_loop hrec hrec9 hx60 hxs hxe xs.length 0 [] g none S1 (by omega) (Nat.zero_le _) (by rw [fr_get hf1 (by decide)]; exact h0) (reO_fr hO hf1 (fun j hj => by simp at hj; omega)) (by rw [fr_get hf1 (by decide)]; exact hch) h1 hg1 (fun i hi => by simp at hi) (fun zs g' T e2 hf2 q1 q2 q3 => ?_)
  rw [List.drop_zero] at e2
  subst e2
  exact hq g' T (fr_trans hf1 hf2) q1 q2 q3
set_option maxHeartbeats 2000000 in
theorem q_fold {what path : Int32} {S : am_S} (h : clR S rec sp (nI xs.length) mp b tot l A E re) (hx60 : xs.length ≤ 60) (hxs : chD ch xs) (hxe : ∀ e, e ∈ xs → e < re.2.1.length) (hch : am_get S 398 = some (iA 60 ch)) (hW : taW S)
    (hiae : ¬ (∃ w, what = nI w ∧ (w ≤ 4 ∨ (100 ≤ w ∧ w ≤ 200))) → Q (.inr IAE, am_thrown S))
    (hnse : ∀ w T, what = nI w → (w ≤ 4 ∨ (100 ≤ w ∧ w ≤ 200)) → 1 < w → (gat b tot re path xs).length = 0 → fr [399, 400] S T → taW T → Q (.inr NSE, am_thrown T))
    (hret : ∀ w T, what = nI w → (w ≤ 4 ∨ (100 ≤ w ∧ w ≤ 200)) → (1 < w → (gat b tot re path xs).length ≠ 0) → fr [399, 400] S T → taW T → Q (.inl (some (.long (fvl w (gat b tot re path xs)))), T)) : ev X (d + 5) 85 [.ref 0, .int what, .int path] S Q := by
  refine ev_wp (L0 := [some (.ref 0), some (.int what), some (.int path)]) (Nat.le_of_ble_eq_true rfl) rfl ?_
  have bad : ¬ (∃ w, what = nI w ∧ (w ≤ 4 ∨ (100 ≤ w ∧ w ≤ 200))) → wp X (d + 4) 85 22 [some (.ref 0), some (.int what), some (.int path)] [] S Q := by
    intro hb
    refine wp_thr rfl (by decide) (hiae hb)
  have ok : ∀ w, what = nI w → (w ≤ 4 ∨ (100 ≤ w ∧ w ≤ 200)) → wp X (d + 4) 85 30 [some (.ref 0), some (.int what), some (.int path)] [] S Q := by
    intro w hw hwo
    subst hw
    clear bad hiae
    have hw31 : w < 2 ^ 31 := by omega
    obtain ⟨h0, hO, hrec, hrec9⟩ := h
    have hlen : (gat b tot re path xs).length ≤ 60 := by have := gat_len (b := b) (tot := tot) (re := re) (path := path) xs []; unfold gat; simp at this; omega
    iterate 2 refine wp_step rfl rfl ?_
    refine wp_c0 rfl rfl (by decide) rfl (recv_ok h0 rfl) rfl (q_tallyChosen hrec hrec9 hx60 hxs hxe h0 hO hch hW (fun g T hf1 h1 hg1 hD1 => ?_))
    have h01 : am_get T 0 = some (frC rec sp (nI xs.length) mp) := by rw [fr_get hf1 (by decide)]; exact h0
    have hW1 : taW T := ⟨_, _, h1, hg1⟩
    generalize hzs : gat b tot re path xs = zs at *
    have K : (1 < w → zs.length ≠ 0) → wp X (d + 4) 85 58 [some (.ref 0), some (.int (nI w)), some (.int path)] [] T Q := by
      intro hz
      refine wp_step rfl rfl ?_
      rcases hwo with h4 | ⟨h100, h200⟩
      · have hq5 : w = 0 ∨ w = 1 ∨ w = 2 ∨ w = 3 ∨ w = 4 := by omega
        rcases hq5 with rfl | rfl | rfl | rfl | rfl
        · refine wp_tsw (q := 92) rfl rfl ?_
          refine wp_step rfl rfl ?_
          refine wp_getg rfl h01 (by decide) rfl ?_
          refine wp_getg (v := (.int (nI zs.length))) rfl h1 (by decide) rfl ?_
          refine wp_step rfl rfl ?_
          rw [nI_l (by omega)]
          refine wp_lret rfl rfl (hret 0 T rfl (Or.inl (by omega)) (by omega) hf1 hW1)
        · refine wp_tsw (q := 101) rfl rfl ?_
          refine wp_step rfl rfl ?_
          refine wp_getg rfl h01 (by decide) rfl ?_
          refine wp_c0 rfl rfl (by decide) rfl (recv_ok h1 rfl) rfl (q_taSum h1 hg1 hD1 hlen ?_)
          refine wp_lret rfl rfl (hret 1 T rfl (Or.inl (by omega)) (by omega) hf1 hW1)
        · refine wp_tsw (q := 109) rfl rfl ?_
          refine wp_step rfl rfl ?_
          refine wp_getg rfl h01 (by decide) rfl ?_
          refine wp_step rfl rfl ?_
          refine wp_c0 rfl rfl (by decide) rfl (recv_ok h1 rfl) rfl (q_inOrder (k := 0) h1 hg1 hD1 hlen rfl (by have := hz (by omega); omega) ?_)
          refine wp_lret rfl rfl (hret 2 T rfl (Or.inl (by omega)) hz hf1 hW1)
        · refine wp_tsw (q := 118) rfl rfl ?_
          refine wp_step rfl rfl ?_
          refine wp_getg rfl h01 (by decide) rfl ?_
          refine wp_step rfl rfl ?_
          refine wp_getg rfl h01 (by decide) rfl ?_
          refine wp_getg (v := (.int (nI zs.length))) rfl h1 (by decide) rfl ?_
          iterate 2 refine wp_step rfl rfl ?_
          have hz1 := hz (by omega)
          rw [show nI zs.length - Int32.ofInt 1 = nI (zs.length - 1) from pk_sub (b := 1) (by omega)]
          refine wp_c0 rfl rfl (by decide) rfl (recv_ok h1 rfl) rfl (q_inOrder (k := zs.length - 1) h1 hg1 hD1 hlen (by rw [if_neg (by rw [show (0 : Int32) = nI 0 from rfl, nI_ltI (by omega) (by decide)]; omega)]) (by omega) ?_)
          refine wp_lret rfl rfl (hret 3 T rfl (Or.inl (by omega)) hz hf1 hW1)
        · refine wp_tsw (q := 135) rfl rfl ?_
          refine wp_step rfl rfl ?_
          refine wp_getg rfl h01 (by decide) rfl ?_
          refine wp_c0 rfl rfl (by decide) rfl (recv_ok h1 rfl) rfl (q_taMean h1 hg1 hD1 hlen (by have := hz (by omega); omega) ?_)
          refine wp_lret rfl rfl (hret 4 T rfl (Or.inl (by omega)) hz hf1 hW1)
      · have hz1 := hz (by omega)
        have hm1 : (w - 100) * zs.length ≤ 100 * zs.length := Nat.mul_le_mul_right _ (by omega)
        have hm2 : ((w - 100) * zs.length + 99) / 100 ≤ zs.length := by omega
        refine wp_tswd (q := 143) rfl (Or.inr (by rw [nI_toInt (by omega)]; omega)) rfl ?_
        refine wp_step rfl rfl ?_
        refine wp_getg rfl h01 (by decide) rfl ?_
        iterate 3 refine wp_step rfl rfl ?_
        rw [show nI w - (Int8.ofInt 100).toInt32 = nI (w - 100) from pk_sub (b := 100) (by omega)]
        refine wp_step rfl rfl ?_
        refine wp_getg rfl h01 (by decide) rfl ?_
        refine wp_getg (v := (.int (nI zs.length))) rfl h1 (by decide) rfl ?_
        refine wp_step rfl rfl ?_
        rw [pk_mul]
        iterate 2 refine wp_step rfl rfl ?_
        rw [show nI ((w - 100) * zs.length) + (Int8.ofInt 99).toInt32 = nI ((w - 100) * zs.length + 99) from nI_add _ 99]
        refine wp_step rfl rfl ?_
        refine wp_idiv rfl (by decide) ?_
        rw [show nI ((w - 100) * zs.length + 99) / (Int8.ofInt 100).toInt32 = nI (((w - 100) * zs.length + 99) / 100) from nI_div (b := 100) (by omega) (by omega) (by omega)]
        iterate 2 refine wp_step rfl rfl ?_
        refine wp_c0 rfl rfl (by decide) rfl (recv_ok h1 rfl) rfl (q_inOrder (k := ((w - 100) * zs.length + 99) / 100 - 1) h1 hg1 hD1 hlen ?_ (by omega) ?_)
        · by_cases g0 : ((w - 100) * zs.length + 99) / 100 = 0
          · rw [g0]; rfl
          · rw [show nI (((w - 100) * zs.length + 99) / 100) - Int32.ofInt 1 = nI (((w - 100) * zs.length + 99) / 100 - 1) from pk_sub (b := 1) (by omega), if_neg (by rw [show (0 : Int32) = nI 0 from rfl, nI_ltI (by omega) (by decide)]; omega)]
        · refine wp_lret rfl rfl (by
            have h9 := hret w T rfl (Or.inr ⟨h100, h200⟩) hz hf1 hW1
            unfold fvl at h9
            rw [if_neg (by omega), if_neg (by omega), if_neg (by omega), if_neg (by omega), if_neg (by omega)] at h9
            exact h9)
    refine wp_step rfl rfl ?_
    refine wp_getg rfl h01 (by decide) rfl ?_
    refine wp_getg (v := (.int (nI zs.length))) rfl h1 (by decide) rfl ?_
    refine wp_if rfl (fun c9 => ?_) (fun c9 => ?_)
    · replace c9 := z_ne_t (a := zs.length) (by omega) c9
      exact K (fun _ => c9)
    · replace c9 := z_ne_f (a := zs.length) (by omega) c9
      iterate 2 refine wp_step rfl rfl ?_
      refine wp_icmp rfl (fun c8 => ?_) (fun c8 => ?_)
      · replace c8 := n_le_t (a := w) (b := 1) hw31 (by decide) c8
        exact K (fun h9 => by omega)
      · replace c8 := n_le_f (a := w) (b := 1) hw31 (by decide) c8
        refine wp_thr rfl (by decide) (hnse w T rfl hwo c8 c9 hf1 hW1)
  rcases tcase what 200 (by decide) with ⟨w, h8, h9⟩ | h9
  · subst h9
    have uniq : ∀ v, nI w = nI v → (v ≤ 4 ∨ (100 ≤ v ∧ v ≤ 200)) → v = w := fun v g1 g2 => ((nI_eq (by omega) (by omega)).mp g1).symm
    refine wp_step rfl rfl ?_
    refine wp_if rfl (fun c0 => ?_) (fun c0 => ?_)
    · replace c0 := z_lt_t (a := w) (by omega) c0
      exact c0.elim
    · replace c0 := z_lt_f (a := w) (by omega) c0
      iterate 2 refine wp_step rfl rfl ?_
      refine wp_icmp rfl (fun c1 => ?_) (fun c1 => ?_)
      · replace c1 := n_le_t (a := w) (b := 4) (by omega) (by omega) c1
        iterate 2 refine wp_step rfl rfl ?_
        refine wp_icmp rfl (fun c3 => ?_) (fun c3 => ?_)
        · replace c3 := n_le_t (a := w) (b := 200) (by omega) (by omega) c3
          exact ok w rfl (Or.inl c1)
        · replace c3 := n_le_f (a := w) (b := 200) (by omega) (by omega) c3
          omega
      · replace c1 := n_le_f (a := w) (b := 4) (by omega) (by omega) c1
        iterate 2 refine wp_step rfl rfl ?_
        refine wp_icmp rfl (fun c2 => ?_) (fun c2 => ?_)
        · replace c2 := n_lt_t (a := w) (b := 100) (by omega) (by omega) c2
          exact bad (fun ⟨v, g1, g2⟩ => by have := uniq v g1 g2; omega)
        · replace c2 := n_lt_f (a := w) (b := 100) (by omega) (by omega) c2
          iterate 2 refine wp_step rfl rfl ?_
          refine wp_icmp rfl (fun c3 => ?_) (fun c3 => ?_)
          · replace c3 := n_le_t (a := w) (b := 200) (by omega) (by omega) c3
            exact ok w rfl (Or.inr ⟨c2, h8⟩)
          · replace c3 := n_le_f (a := w) (b := 200) (by omega) (by omega) c3
            omega
  · have nb : ¬ (∃ w, what = nI w ∧ (w ≤ 4 ∨ (100 ≤ w ∧ w ≤ 200))) := by
      rintro ⟨w, g1, g2⟩
      rw [g1, nI_toInt (by omega)] at h9
      omega
    refine wp_step rfl rfl ?_
    refine wp_if rfl (fun c0 => ?_) (fun c0 => ?_)
    · replace c0 := q_lt_t c0
      exact bad nb
    · replace c0 := q_lt_f c0
      have h200 : (200 : Int) < what.toInt := by
        rcases h9 with h9 | h9
        · rw [Int32.lt_iff_toInt_lt] at c0; exact absurd h9 c0
        · exact h9
      iterate 2 refine wp_step rfl rfl ?_
      refine wp_icmp_f rfl (decide_eq_false (fun h8 => by rw [Int32.le_iff_toInt_le] at h8; have : what.toInt ≤ 4 := h8; omega)) ?_
      iterate 2 refine wp_step rfl rfl ?_
      refine wp_icmp_f rfl (decide_eq_false (fun h8 => by rw [Int32.lt_iff_toInt_lt] at h8; have : what.toInt < 100 := h8; omega)) ?_
      iterate 2 refine wp_step rfl rfl ?_
      refine wp_icmp_f rfl (decide_eq_false (fun h8 => by rw [Int32.le_iff_toInt_le] at h8; have : what.toInt ≤ 200 := h8; omega)) ?_
      exact bad nb
end FOLD
