/-! A CHUNK'S HEADER -/
/-- n bytes as a number -/
def fxN (b : Nat → Nat) (p : Nat) : Nat → Nat
  | 0 => 0
  | i + 1 => fxN b p i * 256 + b (p + i)
theorem lN_sh {a c : Nat} (ha : a < 2 ^ 55) (hc : c < 256) : (lN a <<< ((8 : Int32).toInt64 &&& 63)) ||| (nI c).toInt64 = lN (a * 256 + c) := by
  rw [nI_l (by omega)]
  rw [show ((8 : Int32).toInt64 &&& 63) = (8 : Int64) from by decide]
  apply Int64.toBitVec_inj.mp
  rw [Int64.toBitVec_or, Int64.toBitVec_shiftLeft]
  apply BitVec.eq_of_toNat_eq
  rw [BitVec.toNat_or]
  have e1 : ((lN a).toBitVec <<< (Int64.toBitVec 8).smod 64).toNat = a * 256 := by
    rw [show (Int64.toBitVec 8).smod 64 = 8#64 from by decide]
    show ((lN a).toBitVec <<< (8#64 : BitVec 64)).toNat = _
    rw [BitVec.shiftLeft_eq', BitVec.toNat_shiftLeft]
    show (BitVec.ofNat 64 a).toNat <<< 8 % 2 ^ 64 = _
    rw [BitVec.toNat_ofNat, Nat.mod_eq_of_lt (by omega), Nat.shiftLeft_eq, Nat.mod_eq_of_lt (by omega)]
  have e2 : (lN c).toBitVec.toNat = c := by
    show (BitVec.ofNat 64 c).toNat = c
    rw [BitVec.toNat_ofNat, Nat.mod_eq_of_lt (by omega)]
  have e3 : (lN (a * 256 + c)).toBitVec.toNat = a * 256 + c := by
    show (BitVec.ofNat 64 (a * 256 + c)).toNat = _
    rw [BitVec.toNat_ofNat, Nat.mod_eq_of_lt (by omega)]
  rw [e1, e2, e3]
  have h := Nat.two_pow_add_eq_or_of_lt (i := 8) (b := c) (by omega) a
  rw [show a * 256 = 2 ^ 8 * a by omega]
  exact h.symm
theorem fxN_lt {b : Nat → Nat} (hb : ∀ j, b j < 256) {p : Nat} : ∀ n, fxN b p n < 256 ^ n := by
  intro n
  induction n with
  | zero => exact Nat.one_pos
  | succ n ih =>
    have h1 := hb (p + n)
    unfold fxN
    rw [Nat.pow_succ]
    omega
theorem fx_N {b : Nat → Nat} (hb : ∀ j, b j < 256) {p : Nat} : ∀ n, n ≤ 7 → fx (Bn b) p n = lN (fxN b p n) := by
  intro n
  induction n with
  | zero => intro _; rfl
  | succ n ih =>
    intro hn
    unfold fx fxN
    rw [ih (by omega)]
    have h1 := fxN_lt hb (p := p) n
    have h2 : (256 : Nat) ^ n ≤ 256 ^ 6 := Nat.pow_le_pow_right (by decide) (by omega)
    exact lN_sh (Nat.lt_of_lt_of_le h1 (Nat.le_trans h2 (by decide))) (hb (p + n))
abbrev w2 (b : Nat → Nat) (p : Nat) : Nat := fxN b p 2
abbrev w4 (b : Nat → Nat) (p : Nat) : Nat := fxN b p 4
def sg (i : Nat) : Nat := match i with
  | 0 => 70
  | 1 => 76
  | 2 => 82
  | 3 => 0
  | _ => 2
theorem sg_eq (i : Nat) : am_sig i = nI (sg i) := by
  match i with
  | 0 => rfl
  | 1 => rfl
  | 2 => rfl
  | 3 => rfl
  | k + 4 => rfl
theorem sg_lt (i : Nat) : sg i < 256 := by
  match i with
  | 0 => decide
  | 1 => decide
  | 2 => decide
  | 3 => decide
  | k + 4 => show 2 < 256; decide
def hdrF (b : Nat → Nat) (tot s : Nat) : Nat → Nat → Option (Int32 × Nat)
  | 0, _ => none
  | m + 1, i => if tot ≤ s + i then some (2, tot) else if i < 5 ∧ b (s + i) ≠ sg i then some (1, s + i) else hdrF b tot s m (i + 1)
/-- a fault, or the chunk's size -/
def rdH (b : Nat → Nat) (tot s : Nat) : (Int32 × Nat) ⊕ Nat := match hdrF b tot s 8 0 with
  | some e => .inl e
  | none => if w2 b (s + 6) < 20 then .inl (1, s + 6) else if tot - s < w2 b (s + 6) then .inl (2, s + 6) else if w4 b (s + 16) = 0 then .inl (1, s + 16) else .inr (w2 b (s + 6))
theorem hdrF_none {b : Nat → Nat} {tot s : Nat} : ∀ {m i : Nat}, hdrF b tot s m i = none → m = 0 ∨ s + (i + m) ≤ tot := by
  intro m
  induction m with
  | zero => intro i _; exact Or.inl rfl
  | succ m ih =>
    intro i h
    unfold hdrF at h
    split at h
    · cases h
    · split at h
      · cases h
      · rcases ih h with h1 | h1 <;> exact Or.inr (by omega)
theorem rdH_ok {b : Nat → Nat} {tot s z : Nat} (h : rdH b tot s = .inr z) : z = w2 b (s + 6) ∧ 20 ≤ z ∧ s + z ≤ tot ∧ w4 b (s + 16) ≠ 0 := by
  unfold rdH at h
  split at h
  · cases h
  · rename_i e
    have h1 := hdrF_none e
    split at h
    · cases h
    · split at h
      · cases h
      · split at h
        · cases h
        · cases h
          exact ⟨rfl, by omega, by omega, by assumption⟩
section HEADER
variable {X : Nat × (Nat → Int32)} {d k pc : Nat} {L : am_L} {st : List Value} {S : am_S} {Q : am_R → Prop} {b : Nat → Nat} {tot pos lim idp c s : Nat} {en : Int32} {tk fq : Int64} {nt nc : Int32}
theorem wp_sig {len a b w j : Nat} {cst : Int} (hi : am_P k pc = some (.iaload, len, a, b, w, cst)) (hj : j < 5) (h : wp X d k (pc + len) L (.int (nI (sg j)) :: st) S Q) : wp X d k pc L (.int (nI j) :: .ref 1000001 :: st) S Q := by
  refine wp_step (pc' := pc + len) (L' := L) (st' := .int (nI (sg j)) :: st) (S' := S) hi ?_ h
  have e : am_in (nI j) 5 = true := am_in_nI hj (by decide)
  simp only [am_step, am_aload, am_ro]
  rw [if_neg (by decide), if_pos trivial]
  dsimp only
  rw [if_pos ⟨trivial, e⟩, nI_clamp (by omega), sg_eq]
theorem rh_loop (hb : ∀ j, b j < 256) (h : sK S b tot pos lim idp) (hs : s ≤ tot) :
    ∀ (m i : Nat), i + m = 8 → (hdrF b tot s m i = none → wp X (d + 1) 6 69 [some (.ref c), some (.ref 1), some (.int (nI s)), some (.int (nI 8))] [] S Q) → (∀ k pl T, hdrF b tot s m i = some (k, pl) → fr [1] S T → sX T tot k pl → Q (.inr IAE, am_thrown T)) →
      wp X (d + 1) 6 7 [some (.ref c), some (.ref 1), some (.int (nI s)), some (.int (nI i))] [] S Q := by
  have hk := h.2.2
  intro m
  induction m with
  | zero =>
    intro i hi hret hthr
    iterate 2 refine wp_step rfl rfl ?_
    refine wp_icmp rfl (fun c => ?_) (fun c => ?_)
    · replace c := n_ge_t (a := i) (b := 8) (by omega) (by omega) c
      have e : i = 8 := by omega
      subst e
      exact hret (by unfold hdrF; rfl)
    · replace c := n_ge_f (a := i) (b := 8) (by omega) (by omega) c
      omega
  | succ m ih =>
    intro i hi hret hthr
    iterate 2 refine wp_step rfl rfl ?_
    refine wp_icmp rfl (fun c => ?_) (fun c => ?_)
    · replace c := n_ge_t (a := i) (b := 8) (by omega) (by omega) c
      omega
    · replace c := n_ge_f (a := i) (b := 8) (by omega) (by omega) c
      iterate 4 refine wp_step rfl rfl ?_
      refine wp_getg rfl h.1 (by decide) rfl ?_
      rw [nI_add]
      refine wp_icmp rfl (fun c2 => ?_) (fun c2 => ?_)
      · replace c2 := n_lt_t (a := s + i) (b := tot) (by omega) (by omega) c2
        iterate 2 refine wp_step rfl rfl ?_
        refine wp_step rfl rfl ?_
        refine wp_icmp rfl (fun c3 => ?_) (fun c3 => ?_)
        · replace c3 := n_ge_t (a := i) (b := 5) (by omega) (by omega) c3
          iterate 2 refine wp_step rfl rfl ?_
          rw [show nI i + Int32.ofInt 1 = nI (i + 1) from nI_add i 1]
          exact ih (i + 1) (by omega) (fun e => hret (by unfold hdrF; rw [if_neg (by omega), if_neg (by omega)]; exact e)) (fun k pl T e => hthr k pl T (by unfold hdrF; rw [if_neg (by omega), if_neg (by omega)]; exact e))
        · replace c3 := n_ge_f (a := i) (b := 5) (by omega) (by omega) c3
          iterate 4 refine wp_step rfl rfl ?_
          rw [nI_add]
          refine wp_c0 rfl rfl (by decide) rfl (recv_ok h.1 rfl) rfl (q_byteAt h c2 ?_)
          iterate 2 refine wp_step rfl rfl ?_
          refine wp_sig rfl c3 ?_
          have hbi := hb (s + i)
          have hsg := sg_lt i
          refine wp_icmp rfl (fun c4 => ?_) (fun c4 => ?_)
          · replace c4 := n_eq_t (a := b (s + i)) (b := sg i) (by omega) (by omega) c4
            iterate 2 refine wp_step rfl rfl ?_
            rw [show nI i + Int32.ofInt 1 = nI (i + 1) from nI_add i 1]
            exact ih (i + 1) (by omega) (fun e => hret (by unfold hdrF; rw [if_neg (by omega), if_neg (by omega)]; exact e)) (fun k pl T e => hthr k pl T (by unfold hdrF; rw [if_neg (by omega), if_neg (by omega)]; exact e))
          · replace c4 := n_eq_f (a := b (s + i)) (b := sg i) (by omega) (by omega) c4
            iterate 5 refine wp_step rfl rfl ?_
            rw [nI_add]
            refine wp_fl rfl rfl h (fun T hf hx => hthr 1 (s + i) T ?_ hf hx)
            unfold hdrF; rw [if_neg (by omega), if_pos ⟨c3, c4⟩]
      · replace c2 := n_lt_f (a := s + i) (b := tot) (by omega) (by omega) c2
        iterate 3 refine wp_step rfl rfl ?_
        refine wp_getg rfl h.1 (by decide) rfl ?_
        refine wp_fl rfl rfl h (fun T hf hx => hthr 2 tot T ?_ hf hx)
        unfold hdrF; rw [if_pos c2]
set_option maxHeartbeats 1000000 in
theorem q_readHeader {st0 : Int32} (hb : ∀ j, b j < 256) (h : sK S b tot pos lim idp) (hc : am_get S c = some (ckC c st0 en tk fq nt nc)) (hs : s ≤ tot) (hc3 : 3 ≤ c) (hc9 : c < 900000)
    (hret : ∀ z T, rdH b tot s = .inr z → fr [c] S T → am_get T c = some (ckC c (nI s) (nI (s + z)) (lN (w4 b (s + 12))) (lN (w4 b (s + 16))) nt nc) → Q (.inl none, T))
    (hthr : ∀ k pl T, rdH b tot s = .inl (k, pl) → fr [1, c] S T → sX T tot k pl → (∃ st en tk fq, am_get T c = some (ckC c st en tk fq nt nc)) → Q (.inr IAE, am_thrown T)) : ev X (d + 2) 6 [.ref c, .ref 1, .int (nI s)] S Q := by
  refine ev_wp (L0 := [some (.ref c), some (.ref 1), some (.int (nI s)), none]) (Nat.le_of_ble_eq_true rfl) rfl ?_
  have hk0 := h.2.2
  iterate 2 refine wp_step rfl rfl ?_
  refine wp_putg rfl hc (by decide) rfl rfl ?_
  rw [ckG_0]
  have hf0 : fr [c] S (am_upd S c (ckC c (nI s) en tk fq nt nc)) := fr_up (by simp)
  have hk : sK (am_upd S c (ckC c (nI s) en tk fq nt nc)) b tot pos lim idp := sK_fr h hf0 (by simp only [List.mem_cons, List.not_mem_nil, or_false]; omega) (by simp only [List.mem_cons, List.not_mem_nil, or_false]; omega)
  have hcc : am_get (am_upd S c (ckC c (nI s) en tk fq nt nc)) c = some (ckC c (nI s) en tk fq nt nc) := am_get_self hc
  generalize am_upd S c (ckC c (nI s) en tk fq nt nc) = S1 at hf0 hk hcc ⊢
  iterate 2 refine wp_step rfl rfl ?_
  refine rh_loop hb hk hs 8 0 rfl (fun e1 => ?_) (fun k pl T e1 hf hx => ?_)
  · have h8 := hdrF_none e1
    iterate 5 refine wp_step rfl rfl ?_
    rw [show nI s + (Int8.ofInt 6).toInt32 = nI (s + 6) from nI_add s 6]
    refine wp_c0 rfl rfl (by decide) rfl (recv_ok hk.1 rfl) rfl (q_fixedAt (n := 2) hk (by omega) ?_)
    rw [fx_N hb 2 (by decide)]
    refine wp_step rfl rfl ?_
    rw [lN_i]
    have hw2 : w2 b (s + 6) < 65536 := fxN_lt hb (p := s + 6) 2
    iterate 3 refine wp_step rfl rfl ?_
    refine wp_icmp rfl (fun c1 => ?_) (fun c1 => ?_)
    · replace c1 := n_ge_t (a := w2 b (s + 6)) (b := 20) (by omega) (by omega) c1
      iterate 2 refine wp_step rfl rfl ?_
      refine wp_getg rfl hk.1 (by decide) rfl ?_
      iterate 2 refine wp_step rfl rfl ?_
      rw [pk_sub hs]
      refine wp_icmp rfl (fun c2 => ?_) (fun c2 => ?_)
      · replace c2 := n_le_t (a := w2 b (s + 6)) (b := tot - s) (by omega) (by omega) c2
        iterate 4 refine wp_step rfl rfl ?_
        rw [nI_add]
        refine wp_putg rfl hcc (by decide) rfl rfl ?_
        rw [ckG_1]
        have hf2 : fr [c] S (am_upd S1 c (ckC c (nI s) (nI (s + w2 b (s + 6))) tk fq nt nc)) := fr_upd hf0 (by simp)
        have hk2 : sK (am_upd S1 c (ckC c (nI s) (nI (s + w2 b (s + 6))) tk fq nt nc)) b tot pos lim idp := sK_fr h hf2 (by simp only [List.mem_cons, List.not_mem_nil, or_false]; omega) (by simp only [List.mem_cons, List.not_mem_nil, or_false]; omega)
        have hc2 : am_get (am_upd S1 c (ckC c (nI s) (nI (s + w2 b (s + 6))) tk fq nt nc)) c = some (ckC c (nI s) (nI (s + w2 b (s + 6))) tk fq nt nc) := am_get_self hcc
        generalize am_upd S1 c (ckC c (nI s) (nI (s + w2 b (s + 6))) tk fq nt nc) = S2 at hf2 hk2 hc2 ⊢
        iterate 6 refine wp_step rfl rfl ?_
        rw [show nI s + (Int8.ofInt 12).toInt32 = nI (s + 12) from nI_add s 12]
        refine wp_c0 rfl rfl (by decide) rfl (recv_ok hk2.1 rfl) rfl (q_fixedAt (n := 4) hk2 (by omega) ?_)
        rw [fx_N hb 4 (by decide)]
        refine wp_putg rfl hc2 (by decide) rfl rfl ?_
        rw [ckG_2]
        have hf3 : fr [c] S (am_upd S2 c (ckC c (nI s) (nI (s + w2 b (s + 6))) (lN (w4 b (s + 12))) fq nt nc)) := fr_upd hf2 (by simp)
        have hk3 : sK (am_upd S2 c (ckC c (nI s) (nI (s + w2 b (s + 6))) (lN (w4 b (s + 12))) fq nt nc)) b tot pos lim idp := sK_fr h hf3 (by simp only [List.mem_cons, List.not_mem_nil, or_false]; omega) (by simp only [List.mem_cons, List.not_mem_nil, or_false]; omega)
        have hc3 : am_get (am_upd S2 c (ckC c (nI s) (nI (s + w2 b (s + 6))) (lN (w4 b (s + 12))) fq nt nc)) c = some (ckC c (nI s) (nI (s + w2 b (s + 6))) (lN (w4 b (s + 12))) fq nt nc) := am_get_self hc2
        generalize am_upd S2 c (ckC c (nI s) (nI (s + w2 b (s + 6))) (lN (w4 b (s + 12))) fq nt nc) = S3 at hf3 hk3 hc3 ⊢
        iterate 6 refine wp_step rfl rfl ?_
        rw [show nI s + (Int8.ofInt 16).toInt32 = nI (s + 16) from nI_add s 16]
        refine wp_c0 rfl rfl (by decide) rfl (recv_ok hk3.1 rfl) rfl (q_fixedAt (n := 4) hk3 (by omega) ?_)
        rw [fx_N hb 4 (by decide)]
        refine wp_putg rfl hc3 (by decide) rfl rfl ?_
        rw [ckG_3]
        have hf4 : fr [c] S (am_upd S3 c (ckC c (nI s) (nI (s + w2 b (s + 6))) (lN (w4 b (s + 12))) (lN (w4 b (s + 16))) nt nc)) := fr_upd hf3 (by simp)
        have hk4 : sK (am_upd S3 c (ckC c (nI s) (nI (s + w2 b (s + 6))) (lN (w4 b (s + 12))) (lN (w4 b (s + 16))) nt nc)) b tot pos lim idp := sK_fr h hf4 (by simp only [List.mem_cons, List.not_mem_nil, or_false]; omega) (by simp only [List.mem_cons, List.not_mem_nil, or_false]; omega)
        have hc4 : am_get (am_upd S3 c (ckC c (nI s) (nI (s + w2 b (s + 6))) (lN (w4 b (s + 12))) (lN (w4 b (s + 16))) nt nc)) c = some (ckC c (nI s) (nI (s + w2 b (s + 6))) (lN (w4 b (s + 12))) (lN (w4 b (s + 16))) nt nc) := am_get_self hc3
        generalize am_upd S3 c (ckC c (nI s) (nI (s + w2 b (s + 6))) (lN (w4 b (s + 12))) (lN (w4 b (s + 16))) nt nc) = S4 at hf4 hk4 hc4 ⊢
        refine wp_step rfl rfl ?_
        refine wp_getg (v := .long (lN (w4 b (s + 16)))) rfl hc4 (by decide) rfl ?_
        have hw4 : w4 b (s + 16) < 4294967296 := fxN_lt hb (p := s + 16) 4
        iterate 2 refine wp_step rfl rfl ?_
        refine wp_if rfl (fun c5 => ?_) (fun c5 => ?_)
        · have h5 : ¬ lN (w4 b (s + 16)) < lN 1 := fun h9 => by
            have h10 := (lg_cmp_lt (lN (w4 b (s + 16))) (lN 1)).mpr h9
            have h11 : (0 : Int32) ≤ lg_cmp (lN (w4 b (s + 16))) (lN 1) := of_decide_eq_true c5
            exact absurd h10 (Int32.not_lt.mpr h11)
          rw [pk_lLT (by omega) (by decide)] at h5
          refine wp_vret rfl rfl (hret (w2 b (s + 6)) S4 (by unfold rdH; rw [e1]; dsimp only; rw [if_neg (by omega), if_neg (by omega), if_neg (by omega)]) hf4 hc4)
        · have h5 : lN (w4 b (s + 16)) < lN 1 := by
            have h11 : ¬ (0 : Int32) ≤ lg_cmp (lN (w4 b (s + 16))) (lN 1) := of_decide_eq_false c5
            exact (lg_cmp_lt _ _).mp (Int32.not_le.mp h11)
          rw [pk_lLT (by omega) (by decide)] at h5
          iterate 5 refine wp_step rfl rfl ?_
          rw [show nI s + (Int8.ofInt 16).toInt32 = nI (s + 16) from nI_add s 16]
          refine wp_fl rfl rfl hk4 (fun T hf5 hx => hthr 1 (s + 16) T ?_ (fr_trans (fr_mono hf4 (fun j hj => by simp only [List.mem_cons, List.not_mem_nil, or_false] at hj ⊢; omega)) (fr_mono hf5 (fun j hj => by simp only [List.mem_cons, List.not_mem_nil, or_false] at hj ⊢; omega))) hx ⟨_, _, _, _, by rw [fr_get hf5 (by simp only [List.mem_cons, List.not_mem_nil, or_false]; omega)]; exact hc4⟩)
          unfold rdH; rw [e1]; dsimp only; rw [if_neg (by omega), if_neg (by omega), if_pos (by omega)]
      · replace c2 := n_le_f (a := w2 b (s + 6)) (b := tot - s) (by omega) (by omega) c2
        iterate 5 refine wp_step rfl rfl ?_
        rw [show nI s + (Int8.ofInt 6).toInt32 = nI (s + 6) from nI_add s 6]
        refine wp_fl rfl rfl hk (fun T hf2 hx => hthr 2 (s + 6) T ?_ (fr_trans (fr_mono hf0 (fun j hj => by simp only [List.mem_cons, List.not_mem_nil, or_false] at hj ⊢; omega)) (fr_mono hf2 (fun j hj => by simp only [List.mem_cons, List.not_mem_nil, or_false] at hj ⊢; omega))) hx ⟨_, _, _, _, by rw [fr_get hf2 (by simp only [List.mem_cons, List.not_mem_nil, or_false]; omega)]; exact hcc⟩)
        unfold rdH; rw [e1]; dsimp only; rw [if_neg (by omega), if_pos c2]
    · replace c1 := n_ge_f (a := w2 b (s + 6)) (b := 20) (by omega) (by omega) c1
      iterate 5 refine wp_step rfl rfl ?_
      rw [show nI s + (Int8.ofInt 6).toInt32 = nI (s + 6) from nI_add s 6]
      refine wp_fl rfl rfl hk (fun T hf2 hx => hthr 1 (s + 6) T ?_ (fr_trans (fr_mono hf0 (fun j hj => by simp only [List.mem_cons, List.not_mem_nil, or_false] at hj ⊢; omega)) (fr_mono hf2 (fun j hj => by simp only [List.mem_cons, List.not_mem_nil, or_false] at hj ⊢; omega))) hx ⟨_, _, _, _, by rw [fr_get hf2 (by simp only [List.mem_cons, List.not_mem_nil, or_false]; omega)]; exact hcc⟩)
      unfold rdH; rw [e1]; dsimp only; rw [if_pos c1]
  · exact hthr k pl T (by unfold rdH; rw [e1]) (fr_trans (fr_mono hf0 (fun j hj => by simp only [List.mem_cons, List.not_mem_nil, or_false] at hj ⊢; omega)) (fr_mono hf (fun j hj => by simp only [List.mem_cons, List.not_mem_nil, or_false] at hj ⊢; omega))) hx ⟨_, _, _, _, by rw [fr_get hf (by simp only [List.mem_cons, List.not_mem_nil, or_false]; omega)]; exact hcc⟩
end HEADER
