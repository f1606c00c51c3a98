/-! feed -/
/-- the last k bytes of a word, the highest first -/
def wb (w : Int32) : Nat → List Nat
  | 0 => []
  | k + 1 => stepAt w k :: wb w k
theorem wb_len (w : Int32) : ∀ k, (wb w k).length = k := by
  intro k
  induction k with
  | zero => rfl
  | succ k ih => unfold wb; rw [List.length_cons, ih]
theorem wb_lt (w : Int32) : ∀ k x, x ∈ wb w k → x < 256 := by
  intro k
  induction k with
  | zero => intro x hx; cases hx
  | succ k ih =>
    intro x hx
    unfold wb at hx
    rcases List.mem_cons.mp hx with h | h
    · subst h; exact stepAt_lt w k
    · exact ih x h
/-- a count of bytes that may be fed -/
def fdN (n : Int32) (len : Nat) : Option Nat := if 1 ≤ n.toInt ∧ n.toInt ≤ 4 ∧ (len : Int) + n.toInt ≤ 960 then some n.toInt.toNat else none
theorem fdN_some {n : Int32} {len m : Nat} (h : fdN n len = some m) : n = nI m ∧ 1 ≤ m ∧ m ≤ 4 ∧ len + m ≤ 960 := by
  unfold fdN at h
  split at h
  · cases h
    refine ⟨Int32.toInt_inj.mp ?_, by omega, by omega, by omega⟩
    rw [nI_toInt (by omega)]
    omega
  · cases h
def fbD (fb : Nat → Int32) (fs : List Nat) : Prop := ∀ (i x : Nat), fs[i]? = some x → fb i &&& 255 = nI x
section FEED
variable {X : Nat × (Nat → Int32)} {d : Nat} {Q : am_R → Prop} {tot pos lim idp : Nat} {fk fp : Int32} {w : Int32}
def fdI : Nat → Int32
  | 0 => -1
  | k + 1 => nI k
set_option maxHeartbeats 1000000 in
theorem ap_loop {n : Int32} : ∀ (k : Nat) (fs : List Nat) (fb : Nat → Int32) (S : am_S), fs.length + k ≤ 960 → k ≤ 4 → am_get S 1 = some (src fs.length tot pos lim idp fk fp) → am_get S 2 = some (.inl (2, 960, .inl fb)) → fbD fb fs →
    (∀ fb' T, fr [1, 2] S T → am_get T 1 = some (src (fs ++ wb w k).length tot pos lim idp fk fp) → am_get T 2 = some (.inl (2, 960, .inl fb')) → fbD fb' (fs ++ wb w k) → Q (.inl (some (.int 1)), T)) → wp X d 42 28 [some (.ref 1), some (.int w), some (.int n), some (.int (fdI k))] [] S Q := by
  intro k
  induction k with
  | zero =>
    intro fs fb S hl h4 h hB hD hq
    unfold fdI
    refine wp_step rfl rfl ?_
    refine wp_if_t rfl rfl ?_
    refine wp_step rfl rfl ?_
    refine wp_iret rfl rfl rfl (hq fb S (fr_refl _ _) (by simpa [wb] using h) hB (by simpa [wb] using hD))
  | succ k ih =>
    intro fs fb S hl h4 h hB hD hq
    unfold fdI at ih ⊢
    refine wp_step rfl rfl ?_
    refine wp_if_f rfl (by show am_c1 .lt (nI k) = false; exact decide_eq_false (fun h9 => by have h8 : nI k < nI 0 := h9; rw [nI_ltI (by omega) (by decide)] at h8; omega)) ?_
    refine wp_step rfl rfl ?_
    refine wp_getg rfl h (by decide) rfl ?_
    refine wp_step rfl rfl ?_
    refine wp_getg (v := (.int (nI fs.length))) rfl h (by decide) rfl ?_
    iterate 6 refine wp_step rfl rfl ?_
    refine wp_ast rfl (Or.inr (Or.inl ⟨rfl, rfl⟩)) hB (am_in_nI (by omega) (by decide)) ?_
    rw [nI_clamp (by omega)]
    rw [show vp_nar (am_ty 2) ((w.toUInt32 >>> (((Int8.ofInt 8).toInt32 * nI k).toUInt32 &&& Int32.toUInt32 31)).toInt32.toInt8.toInt32) = ((w.toUInt32 >>> (((Int8.ofInt 8).toInt32 * nI k).toUInt32 &&& Int32.toUInt32 31)).toInt32.toInt8.toInt32).toInt8.toInt32 from rfl]
    have hval : ((w.toUInt32 >>> (((Int8.ofInt 8).toInt32 * nI k).toUInt32 &&& Int32.toUInt32 31)).toInt32.toInt8.toInt32).toInt8.toInt32 &&& 255 = nI (stepAt w k) := by
      rw [show (255 : Int32) = nI 255 from rfl, i8_255, i8_255]
      exact sh_cl w (by omega)
    generalize ((w.toUInt32 >>> (((Int8.ofInt 8).toInt32 * nI k).toUInt32 &&& Int32.toUInt32 31)).toInt32.toInt8.toInt32).toInt8.toInt32 = bv at hval ⊢
    have h1 : am_get (am_upd S 2 (.inl (2, 960, .inl (upd fb fs.length bv)))) 1 = some (src fs.length tot pos lim idp fk fp) := by rw [am_get_ne (by decide)]; exact h
    have hB1 : am_get (am_upd S 2 (.inl (2, 960, .inl (upd fb fs.length bv)))) 2 = some (.inl (2, 960, .inl (upd fb fs.length bv))) := am_get_self hB
    have hf1 : fr [1, 2] S (am_upd S 2 (.inl (2, 960, .inl (upd fb fs.length bv)))) := fr_up (by simp)
    generalize am_upd S 2 (.inl (2, 960, .inl (upd fb fs.length bv))) = S1 at h1 hB1 hf1 ⊢
    iterate 2 refine wp_step rfl rfl ?_
    refine wp_getg (v := (.int (nI fs.length))) rfl h1 (by decide) rfl ?_
    iterate 2 refine wp_step rfl rfl ?_
    rw [show nI fs.length + Int32.ofInt 1 = nI (fs.length + 1) from nI_add fs.length 1]
    refine wp_putg rfl h1 (by decide) rfl rfl ?_
    rw [srcG_1]
    iterate 2 refine wp_step rfl rfl ?_
    have hlen : (fs ++ [stepAt w k]).length = fs.length + 1 := by simp
    have hf2 : fr [1, 2] S (am_upd S1 1 (src (fs.length + 1) tot pos lim idp fk fp)) := fr_upd hf1 (by simp)
    have hD1 : fbD (upd fb fs.length bv) (fs ++ [stepAt w k]) := by
      intro i x hx
      rcases at_app hx with ⟨g1, g2⟩ | ⟨g1, g2⟩
      · rw [pk_un (by omega)]; exact hD i x g2
      · subst g1; subst g2; rw [pk_us]; exact hval
    have hK : ∀ T fb', fr [1, 2] (am_upd S1 1 (src (fs.length + 1) tot pos lim idp fk fp)) T → am_get T 1 = some (src ((fs ++ [stepAt w k]) ++ wb w k).length tot pos lim idp fk fp) → am_get T 2 = some (.inl (2, 960, .inl fb')) → fbD fb' ((fs ++ [stepAt w k]) ++ wb w k) → Q (.inl (some (.int 1)), T) := fun T fb' g1 g2 g3 g4 => hq fb' T (fr_trans hf2 g1) (by unfold wb; rw [List.append_assoc] at g2; exact g2) g3 (by unfold wb; rw [List.append_assoc] at g4; exact g4)
    cases k with
    | zero => exact ih (fs ++ [stepAt w 0]) (upd fb fs.length bv) (am_upd S1 1 (src (fs.length + 1) tot pos lim idp fk fp)) (by rw [hlen]; omega) (by omega) (by rw [hlen]; exact am_get_self h1) (by rw [am_get_ne (by decide)]; exact hB1) hD1 (fun fb' T g1 g2 g3 g4 => hK T fb' g1 g2 g3 g4)
    | succ k =>
      rw [nI_m1 k]
      exact ih (fs ++ [stepAt w (k + 1)]) (upd fb fs.length bv) (am_upd S1 1 (src (fs.length + 1) tot pos lim idp fk fp)) (by rw [hlen]; omega) (by omega) (by rw [hlen]; exact am_get_self h1) (by rw [am_get_ne (by decide)]; exact hB1) hD1 (fun fb' T g1 g2 g3 g4 => hK T fb' g1 g2 g3 g4)
theorem q_srcAppend {n : Int32} {S : am_S} {fs : List Nat} {fb : Nat → Int32} (hl : fs.length ≤ 960) (h : am_get S 1 = some (src fs.length tot pos lim idp fk fp)) (hB : am_get S 2 = some (.inl (2, 960, .inl fb))) (hD : fbD fb fs)
    (hno : fdN n fs.length = none → Q (.inl (some (.int 0)), S))
    (hyes : ∀ m fb' T, fdN n fs.length = some m → fr [1, 2] S T → am_get T 1 = some (src (fs ++ wb w m).length tot pos lim idp fk fp) → am_get T 2 = some (.inl (2, 960, .inl fb')) → fbD fb' (fs ++ wb w m) → Q (.inl (some (.int 1)), T)) : ev X (d + 1) 42 [.ref 1, .int w, .int n] S Q := by
  refine ev_wp (L0 := [some (.ref 1), some (.int w), some (.int n), none]) (Nat.le_of_ble_eq_true rfl) rfl ?_
  have bad : fdN n fs.length = none → wp X d 42 22 [some (.ref 1), some (.int w), some (.int n), none] [] S Q := by
    intro hb
    refine wp_step rfl rfl ?_
    refine wp_iret rfl rfl rfl (hno hb)
  iterate 2 refine wp_step rfl rfl ?_
  refine wp_icmp rfl (fun c0 => ?_) (fun c0 => ?_)
  · replace c0 := i_lt_t c0
    exact bad (by unfold fdN; rw [Int32.lt_iff_toInt_lt] at c0; have : n.toInt < 1 := c0; rw [if_neg (by omega)])
  · replace c0 := i_lt_f c0
    iterate 2 refine wp_step rfl rfl ?_
    refine wp_icmp rfl (fun c1 => ?_) (fun c1 => ?_)
    · replace c1 := i_gt_t c1
      exact bad (by unfold fdN; rw [Int32.lt_iff_toInt_lt] at c1; have : (4 : Int) < n.toInt := c1; rw [if_neg (by omega)])
    · replace c1 := i_gt_f c1
      iterate 3 refine wp_step rfl rfl ?_
      refine wp_getg (v := (.int (nI fs.length))) rfl h (by decide) rfl ?_
      refine wp_step rfl rfl ?_
      rw [show (Int16.ofInt 960).toInt32 - nI fs.length = nI (960 - fs.length) from pk_sub (a := 960) (by omega)]
      have g0 : ¬ n.toInt < 1 := fun h9 => c0 (by rw [Int32.lt_iff_toInt_lt]; exact h9)
      have g1 : ¬ (4 : Int) < n.toInt := fun h9 => c1 (by rw [Int32.lt_iff_toInt_lt]; exact h9)
      refine wp_icmp rfl (fun c2 => ?_) (fun c2 => ?_)
      · replace c2 := i_le_t c2
        rw [Int32.le_iff_toInt_le, nI_toInt (by omega)] at c2
        have hs : fdN n fs.length = some n.toInt.toNat := by unfold fdN; rw [if_pos (by omega)]
        obtain ⟨k1, k2, k3, k4⟩ := fdN_some hs
        generalize n.toInt.toNat = m at hs k1 k2 k3 k4
        obtain ⟨k, rfl⟩ : ∃ k, m = k + 1 := ⟨m - 1, by omega⟩
        iterate 3 refine wp_step rfl rfl ?_
        rw [show n - Int32.ofInt 1 = nI k from by rw [k1]; exact nI_pred k]
        refine wp_step rfl rfl ?_
        exact ap_loop (k + 1) fs fb S k4 k3 h hB hD (fun fb' T q1 q2 q3 q4 => hyes (k + 1) fb' T hs q1 q2 q3 q4)
      · replace c2 := i_le_f c2
        exact bad (by unfold fdN; rw [Int32.le_iff_toInt_le, nI_toInt (by omega)] at c2; rw [if_neg (by omega)])
theorem q_feed {n cc mp : Int32} {rec sp : Nat} {S : am_S} {fs : List Nat} {fb : Nat → Int32} (h0 : am_get S 0 = some (frC rec sp cc mp)) (hl : fs.length ≤ 960) (h : am_get S 1 = some (src fs.length tot pos lim idp fk fp)) (hB : am_get S 2 = some (.inl (2, 960, .inl fb))) (hD : fbD fb fs)
    (hno : fdN n fs.length = none → Q (.inl (some (.int 0)), S))
    (hyes : ∀ m fb' T, fdN n fs.length = some m → fr [1, 2] S T → am_get T 1 = some (src (fs ++ wb w m).length tot pos lim idp fk fp) → am_get T 2 = some (.inl (2, 960, .inl fb')) → fbD fb' (fs ++ wb w m) → Q (.inl (some (.int 1)), T)) : ev X (d + 2) 73 [.ref 0, .int w, .int n] S Q := by
  refine ev_wp (L0 := [some (.ref 0), some (.int w), some (.int n)]) (Nat.le_of_ble_eq_true rfl) rfl ?_
  refine wp_step rfl rfl ?_
  refine wp_getg rfl h0 (by decide) rfl ?_
  iterate 2 refine wp_step rfl rfl ?_
  refine wp_c0 rfl rfl (by decide) rfl (recv_ok h rfl) rfl (q_srcAppend hl h hB hD (fun g => ?_) (fun m fb2 T g1 g2 g3 g4 g5 => ?_))
  · refine wp_iret rfl rfl rfl (hno g)
  · refine wp_iret rfl rfl rfl (hyes m fb2 T g1 g2 g3 g4 g5)
end FEED
