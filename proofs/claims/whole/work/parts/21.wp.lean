/-! RULES WITH AN END CONDITION: 'wp .. Q': the frame comes to an end r with Q r; 'ev .. Q': so does a call -/
def wp (X : Nat × (Nat → Int32)) (d k pc : Nat) (L : am_L) (st : List Value) (S : am_S) (Q : am_R → Prop) : Prop := ∃ r, go X d k pc L st S r ∧ Q r
def ev (X : Nat × (Nat → Int32)) (d k : Nat) (as : List Value) (S : am_S) (Q : am_R → Prop) : Prop := ∃ r, am_ev am_P am_M1 X d k as S r ∧ Q r
section WPS
variable {X : Nat × (Nat → Int32)} {d k pc : Nat} {L : am_L} {st : List Value} {S : am_S} {Q : am_R → Prop}
theorem ev_wp {as : List Value} {L0 : am_L} (hf : (am_flat as).length ≤ (am_M1 k).2.2.1) (hL : am_entry (am_M1 k).2.2.1 as = L0) (h : wp X d k 0 L0 [] S Q) : ev X (d + 1) k as S Q := by
  subst hL
  obtain ⟨r, h, hq⟩ := h
  exact ⟨r, ev_of hf h, hq⟩
theorem ev_up {d' : Nat} (hd : d ≤ d') {as : List Value} (h : ev X d k as S Q) : ev X d' k as S Q := by
  obtain ⟨r, h, hq⟩ := h
  exact ⟨r, ev_mono hd h, hq⟩
theorem ev_conv {Q' : am_R → Prop} {as : List Value} (h : ev X d k as S Q) (hQ : ∀ r, Q r → Q' r) : ev X d k as S Q' := by
  obtain ⟨r, h, hq⟩ := h
  exact ⟨r, h, hQ r hq⟩
theorem wp_step {i : am_I} {pc' : Nat} {L' : am_L} {st' : List Value} {S' : am_S} (hi : am_P k pc = some i) (hs : am_step X i pc L st S = some (pc', L', st', S')) (h : wp X d k pc' L' st' S' Q) : wp X d k pc L st S Q := by
  obtain ⟨r, h, hq⟩ := h
  exact ⟨r, go_step hi hs h, hq⟩
theorem wp_end {i : am_I} {r : am_R} (hi : am_P k pc = some i) (he : am_end (am_M1 k).2.2.2.1 i st S = some r) (hq : Q r) : wp X d k pc L st S Q := ⟨r, go_end hi he, hq⟩
theorem wp_iret {len a b w : Nat} {cst : Int} {v : Int32} {ty : FieldType} (hi : am_P k pc = some (.ireturn, len, a, b, w, cst)) (hr : (am_M1 k).2.2.2.1 = some ty) (hn : narrow ty (.int v) = .int v) (hq : Q (.inl (some (.int v)), S)) : wp X d k pc L [.int v] S Q :=
  wp_end hi (by rw [hr]; simp only [am_end, hn, if_true]) hq
theorem wp_lret {len a b w : Nat} {cst : Int} {v : Int64} (hi : am_P k pc = some (.lreturn, len, a, b, w, cst)) (hr : (am_M1 k).2.2.2.1 = some .long) (hq : Q (.inl (some (.long v)), S)) : wp X d k pc L [.long v] S Q :=
  wp_end hi (by rw [hr]; rfl) hq
theorem wp_vret {len a b w : Nat} {cst : Int} (hi : am_P k pc = some (.return_, len, a, b, w, cst)) (hr : (am_M1 k).2.2.2.1 = none) (hq : Q (.inl none, S)) : wp X d k pc L [] S Q :=
  wp_end hi (by rw [hr]; rfl) hq
theorem wp_thr {x len a b w : Nat} {cst : Int} (hi : am_P k pc = some (.new x, len, a, b, w, cst)) (ha : a = 100 ∨ a = 101 ∨ a = 102) (hq : Q (.inr (am_exc a), am_thrown S)) : wp X d k pc L [] S Q := by
  rcases ha with rfl | rfl | rfl <;> exact wp_end hi rfl hq
/-- a call: what it gives back, what it throws (caught here or not) -/
theorem wp_call {i : am_I} {as rest : List Value} {Qc : am_R → Prop} (hi : am_P k pc = some i) (hc : am_isCall i.1 = true) (hn : i.2.2.1 ≠ 99999) (ha : am_args i st = some (as, rest)) (hr : am_recv am_M1 i as S = true) (hev : ev X d i.2.2.1 as S Qc)
    (hret : ∀ v T, Qc (.inl v, T) → wp X d k (pc + 3) L (v.toList ++ rest) T Q) (hthr : ∀ E T, Qc (.inr E, T) → ((am_M1 k).2.2.2.2 = [] ∧ Q (.inr E, T)) ∨ ∃ x, am_find (am_M1 k).2.2.2.2 pc E = some x ∧ Q (.inl (some (.int x)), T)) : wp X d k pc L st S Q := by
  obtain ⟨⟨o, T⟩, hev, hq⟩ := hev
  cases o with
  | inl v =>
    obtain ⟨r, h, hq2⟩ := hret v T hq
    exact ⟨r, go_call hi hc hn ha hr hev h, hq2⟩
  | inr E =>
    rcases hthr E T hq with ⟨hh, hq2⟩ | ⟨x, hf, hq2⟩
    · exact ⟨_, go_out hi hc hn ha hr hev hh, hq2⟩
    · exact ⟨_, go_catch hi hc hn ha hr hev hf, hq2⟩
theorem wp_if {o : ClassFile.Cond} {off : Int} {len a b w : Nat} {cst : Int} {x : Int32} (hi : am_P k pc = some (.ifCond o off, len, a, b, w, cst)) (ht : am_c1 o x = true → wp X d k a L st S Q) (hf : am_c1 o x = false → wp X d k (pc + len) L st S Q) : wp X d k pc L (.int x :: st) S Q := by
  cases hc : am_c1 o x with
  | true => exact wp_step hi (by simp only [am_step, hc, if_true]) (ht hc)
  | false => exact wp_step (pc' := pc + len) hi (by simp only [am_step, hc]; rfl) (hf hc)
theorem wp_icmp {o : ClassFile.Cond} {off : Int} {len a b w : Nat} {cst : Int} {x y : Int32} (hi : am_P k pc = some (.if_icmp o off, len, a, b, w, cst)) (ht : am_c2 o x y = true → wp X d k a L st S Q) (hf : am_c2 o x y = false → wp X d k (pc + len) L st S Q) : wp X d k pc L (.int y :: .int x :: st) S Q := by
  cases hc : am_c2 o x y with
  | true => exact wp_step hi (by simp only [am_step, hc, if_true]) (ht hc)
  | false => exact wp_step (pc' := pc + len) hi (by simp only [am_step, hc]; rfl) (hf hc)
theorem wp_if_t {o : ClassFile.Cond} {off : Int} {len a b w : Nat} {cst : Int} {x : Int32} (hi : am_P k pc = some (.ifCond o off, len, a, b, w, cst)) (hc : am_c1 o x = true) (h : wp X d k a L st S Q) : wp X d k pc L (.int x :: st) S Q :=
  wp_if hi (fun _ => h) (fun h2 => by rw [hc] at h2; cases h2)
theorem wp_if_f {o : ClassFile.Cond} {off : Int} {len a b w : Nat} {cst : Int} {x : Int32} (hi : am_P k pc = some (.ifCond o off, len, a, b, w, cst)) (hc : am_c1 o x = false) (h : wp X d k (pc + len) L st S Q) : wp X d k pc L (.int x :: st) S Q :=
  wp_if hi (fun h2 => by rw [hc] at h2; cases h2) (fun _ => h)
theorem wp_icmp_t {o : ClassFile.Cond} {off : Int} {len a b w : Nat} {cst : Int} {x y : Int32} (hi : am_P k pc = some (.if_icmp o off, len, a, b, w, cst)) (hc : am_c2 o x y = true) (h : wp X d k a L st S Q) : wp X d k pc L (.int y :: .int x :: st) S Q :=
  wp_icmp hi (fun _ => h) (fun h2 => by rw [hc] at h2; cases h2)
theorem wp_icmp_f {o : ClassFile.Cond} {off : Int} {len a b w : Nat} {cst : Int} {x y : Int32} (hi : am_P k pc = some (.if_icmp o off, len, a, b, w, cst)) (hc : am_c2 o x y = false) (h : wp X d k (pc + len) L st S Q) : wp X d k pc L (.int y :: .int x :: st) S Q :=
  wp_icmp hi (fun h2 => by rw [hc] at h2; cases h2) (fun _ => h)
theorem wp_getf {x len a b w o : Nat} {cst : Int} {fs : List Value} {v : Value} (hi : am_P k pc = some (.getfield x, len, a, b, w, cst)) (hg : am_get S o = some (.inr (a, fs))) (hv : fs[b]? = some v) (h : wp X d k (pc + len) L (v :: st) S Q) : wp X d k pc L (.ref o :: st) S Q :=
  wp_step hi (by simp only [am_step, am_getf, hg, if_true, hv]) h
theorem wp_putf {x len a b w o : Nat} {cst : Int} {fs : List Value} {v : Value} (hi : am_P k pc = some (.putfield x, len, a, b, w, cst)) (hg : am_get S o = some (.inr (a, fs))) (hb : b < fs.length) (hn : narrow (am_fty a b) v = v) (hf : fits (am_fty a b) v = true)
    (h : wp X d k (pc + len) L st (am_upd S o (.inr (a, fs.set b v))) Q) : wp X d k pc L (v :: .ref o :: st) S Q :=
  wp_step hi (by simp only [am_step, am_putf, hg]; rw [if_pos ⟨trivial, hb, hn, hf⟩]) h
/-- reading ints, bytes or characters -/
theorem wp_ald {op : Instr} {len a b w o n t : Nat} {cst : Int} {f : Nat → Int32} {j : Int32} (hi : am_P k pc = some (op, len, a, b, w, cst)) (hop : (op = .iaload ∧ t = 0) ∨ (op = .baload ∧ t = 2) ∨ (op = .caload ∧ t = 3)) (ho : o < 1000000) (hg : am_get S o = some (.inl (t, n, .inl f))) (hj : am_in j n = true)
    (h : wp X d k (pc + len) L (.int (f j.toNatClampNeg) :: st) S Q) : wp X d k pc L (.int j :: .ref o :: st) S Q := by
  have hro : am_ro X o = none := by unfold am_ro; rw [if_neg (by omega), if_neg (by omega)]
  rcases hop with ⟨rfl, rfl⟩ | ⟨rfl, rfl⟩ | ⟨rfl, rfl⟩ <;> exact wp_step hi (by simp [am_step, am_aload, hro, hg, hj]) h
theorem wp_lald {len a b w o n : Nat} {cst : Int} {f : Nat → Int64} {j : Int32} (hi : am_P k pc = some (.laload, len, a, b, w, cst)) (ho : o < 1000000) (hg : am_get S o = some (.inl (1, n, .inr (.inl f)))) (hj : am_in j n = true)
    (h : wp X d k (pc + len) L (.long (f j.toNatClampNeg) :: st) S Q) : wp X d k pc L (.int j :: .ref o :: st) S Q := by
  have hro : am_ro X o = none := by unfold am_ro; rw [if_neg (by omega), if_neg (by omega)]
  exact wp_step hi (by simp [am_step, am_aload, hro, hg, hj]) h
theorem wp_aald {len a b w o n t : Nat} {cst : Int} {f : Nat → Option Nat} {j : Int32} (hi : am_P k pc = some (.aaload, len, a, b, w, cst)) (ho : o < 1000000) (hg : am_get S o = some (.inl (t, n, .inr (.inr (.inr (.inr f)))))) (ht : t = 4 ∨ t = 5) (hj : am_in j n = true)
    (h : wp X d k (pc + len) L (va_rf (f j.toNatClampNeg) :: st) S Q) : wp X d k pc L (.int j :: .ref o :: st) S Q := by
  have hro : am_ro X o = none := by unfold am_ro; rw [if_neg (by omega), if_neg (by omega)]
  exact wp_step hi (by simp [am_step, am_aload, hro, hg, hj, ht]) h
/-- the script's own ints -/
theorem wp_sld {len a b w : Nat} {cst : Int} {j : Int32} (hi : am_P k pc = some (.iaload, len, a, b, w, cst)) (hj : am_in j X.1 = true) (h : wp X d k (pc + len) L (.int (X.2 j.toNatClampNeg) :: st) S Q) : wp X d k pc L (.int j :: .ref 1000000 :: st) S Q :=
  wp_step hi (by simp [am_step, am_aload, am_ro, hj]) h
theorem wp_ast {op : Instr} {len a b w o n t : Nat} {cst : Int} {f : Nat → Int32} {j x : Int32} (hi : am_P k pc = some (op, len, a, b, w, cst)) (hop : (op = .iastore ∧ t = 0) ∨ (op = .bastore ∧ t = 2) ∨ (op = .castore ∧ t = 3)) (hg : am_get S o = some (.inl (t, n, .inl f))) (hj : am_in j n = true)
    (h : wp X d k (pc + len) L st (am_upd S o (.inl (t, n, .inl (upd f j.toNatClampNeg (vp_nar (am_ty t) x))))) Q) : wp X d k pc L (.int x :: .int j :: .ref o :: st) S Q := by
  rcases hop with ⟨rfl, rfl⟩ | ⟨rfl, rfl⟩ | ⟨rfl, rfl⟩ <;> exact wp_step hi (by simp [am_step, am_astore, hg, hj]) h
theorem wp_last {len a b w o n : Nat} {cst : Int} {f : Nat → Int64} {j : Int32} {x : Int64} (hi : am_P k pc = some (.lastore, len, a, b, w, cst)) (hg : am_get S o = some (.inl (1, n, .inr (.inl f)))) (hj : am_in j n = true)
    (h : wp X d k (pc + len) L st (am_upd S o (.inl (1, n, .inr (.inl (vp_updL f j.toNatClampNeg x))))) Q) : wp X d k pc L (.long x :: .int j :: .ref o :: st) S Q :=
  wp_step hi (by simp [am_step, am_astore, hg, hj]) h
end WPS
/-! cells behind an update -/
theorem am_get_upd {S : am_S} {a b : Nat} {x : am_C} : am_get (am_upd S a x) b = if b < S.1 then (if b = a then some x else some (S.2.1 b)) else none := by
  unfold am_get am_upd
  dsimp only
  split
  · split <;> rfl
  · rfl
theorem am_get_self {S : am_S} {a : Nat} {x y : am_C} (h : am_get S a = some y) : am_get (am_upd S a x) a = some x := by
  rw [am_get_upd, if_pos (am_get_inv h).1, if_pos rfl]
theorem am_get_ne {S : am_S} {a b : Nat} {x : am_C} (h : b ≠ a) : am_get (am_upd S a x) b = am_get S b := by
  rw [am_get_upd]
  unfold am_get
  rw [if_neg h]
theorem am_upd_cs (S : am_S) (a : Nat) (x : am_C) : (am_upd S a x).1 = S.1 ∧ (am_upd S a x).2.2 = S.2.2 := ⟨rfl, rfl⟩
