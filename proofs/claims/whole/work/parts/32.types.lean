/-! TYPES AS THEY ARE TOLD: fields (name, type, flags), types (id, name, kind, fields), and how both programs keep them -/
abbrev jFd : Type := Nat × Nat × Nat
abbrev jTy : Type := Nat × Nat × Nat × List jFd
abbrev jTT : Type := List jTy
def fdOK (y : jFd) : Prop := 97 ≤ y.1 ∧ y.1 ≤ 122 ∧ y.2.1 < 2 ^ 31 ∧ y.2.2 ≤ 3
def tyOK (x : jTy) : Prop := 16 ≤ x.1 ∧ x.1 < 2 ^ 31 ∧ 65 ≤ x.2.1 ∧ x.2.1 ≤ 90 ∧ x.2.2.1 ≤ 1 ∧ x.2.2.2.length ≤ 8 ∧ ∀ y, y ∈ x.2.2.2 → fdOK y
/-- which field has the name -/
def fdx (fs : List jFd) (w : Nat) : Option Nat := fsti (fun i => decide (fs[i]?.map (fun y => y.1) = some w)) fs.length 0
/-- which type has the id -/
def tix (τ : jTT) (id : Nat) : Option Nat := fsti (fun t => decide (τ[t]?.map (fun x => x.1) = some id)) τ.length 0
def tixk (τ : jTT) (id kd : Nat) : Option Nat := fsti (fun t => decide (τ[t]?.map (fun x => (x.1, x.2.2.1)) = some (id, kd))) τ.length 0
/-- the class's Type at o -/
def tyG (o : Nat) (id nm kd n : Int32) : Nat → Value := fun k => match k with
  | 0 => .int id
  | 1 => .int nm
  | 2 => .int kd
  | 3 => .int n
  | 4 => .ref (o + 1)
  | 5 => .ref (o + 2)
  | 6 => .ref (o + 3)
  | _ => .null
abbrev tyC (o : Nat) (id nm kd n : Int32) : am_C := ob 7 7 (tyG o id nm kd n)
abbrev iA (n : Nat) (f : Nat → Int32) : am_C := .inl (0, n, .inl f)
abbrev lA (n : Nat) (f : Nat → Int64) : am_C := .inl (1, n, .inr (.inl f))
abbrev cA (n : Nat) (f : Nat → Int32) : am_C := .inl (3, n, .inl f)
abbrev rA (t n : Nat) (f : Nat → Option Nat) : am_C := .inl (t, n, .inr (.inr (.inr (.inr f))))
def fdE (fs : List jFd) (f1 f2 f3 : Nat → Int32) : Prop := ∀ (i : Nat) (y : jFd), fs[i]? = some y → f1 i = nI y.1 ∧ f2 i = nI y.2.1 ∧ f3 i = nI y.2.2
/-- the class's Type at o tells x -/
def cT (S : am_S) (o : Nat) (x : jTy) : Prop := am_get S o = some (tyC o (nI x.1) (nI x.2.1) (nI x.2.2.1) (nI x.2.2.2.length)) ∧ ∃ f1 f2 f3, am_get S (o + 1) = some (iA 8 f1) ∧ am_get S (o + 2) = some (iA 8 f2) ∧ am_get S (o + 3) = some (iA 8 f3) ∧ fdE x.2.2.2 f1 f2 f3
/-- the class's Type at o, whatever it tells -/
def cTs (S : am_S) (o : Nat) : Prop := ∃ id nm kd n f1 f2 f3, am_get S o = some (tyC o id nm kd n) ∧ am_get S (o + 1) = some (iA 8 f1) ∧ am_get S (o + 2) = some (iA 8 f2) ∧ am_get S (o + 3) = some (iA 8 f3)
theorem cT_s {S : am_S} {o : Nat} {x : jTy} (h : cT S o x) : cTs S o := by
  obtain ⟨h0, f1, f2, f3, h1, h2, h3, -⟩ := h
  exact ⟨_, _, _, _, f1, f2, f3, h0, h1, h2, h3⟩
theorem cT_fr {js : List Nat} {S T : am_S} {o : Nat} {x : jTy} (h : cT S o x) (hf : fr js S T) (hj : o ∉ js ∧ o + 1 ∉ js ∧ o + 2 ∉ js ∧ o + 3 ∉ js) : cT T o x := by
  obtain ⟨h0, f1, f2, f3, h1, h2, h3, h4⟩ := h
  exact ⟨by rw [fr_get hf hj.1]; exact h0, f1, f2, f3, by rw [fr_get hf hj.2.1]; exact h1, by rw [fr_get hf hj.2.2.1]; exact h2, by rw [fr_get hf hj.2.2.2]; exact h3, h4⟩
theorem cTs_fr {js : List Nat} {S T : am_S} {o : Nat} (h : cTs S o) (hf : fr js S T) (hj : o ∉ js ∧ o + 1 ∉ js ∧ o + 2 ∉ js ∧ o + 3 ∉ js) : cTs T o := by
  obtain ⟨id, nm, kd, n, f1, f2, f3, h0, h1, h2, h3⟩ := h
  exact ⟨id, nm, kd, n, f1, f2, f3, by rw [fr_get hf hj.1]; exact h0, by rw [fr_get hf hj.2.1]; exact h1, by rw [fr_get hf hj.2.2.1]; exact h2, by rw [fr_get hf hj.2.2.2]; exact h3⟩
/-- the class's Chunk at c -/
def ckG (c : Nat) (st en : Int32) (tk fq : Int64) (nt nc : Int32) : Nat → Value := fun k => match k with
  | 0 => .int st
  | 1 => .int en
  | 2 => .long tk
  | 3 => .long fq
  | 4 => .int nt
  | 5 => .ref (c + 1)
  | 6 => .int nc
  | 7 => .ref (c + 2)
  | 8 => .ref (c + 3)
  | 9 => .ref (c + 4)
  | _ => .null
abbrev ckC (c : Nat) (st en : Int32) (tk fq : Int64) (nt nc : Int32) : am_C := ob 1 10 (ckG c st en tk fq nt nc)
/-- its types' places -/
def ckR (S : am_S) (c : Nat) : Prop := ∃ F, am_get S (c + 1) = some (rA 5 10 F) ∧ ∀ t, t < 10 → F t = some (c + 5 + 4 * t)
/-- its types -/
def ckT (S : am_S) (c : Nat) (τ : jTT) : Prop := ∀ (t : Nat) (x : jTy), τ[t]? = some x → cT S (c + 5 + 4 * t) x

theorem tyG_0 {o : Nat} {id nm kd n : Int32} {z : Int32} : va_up (tyG o id nm kd n) 0 (.int z) = tyG o z nm kd n := by
  funext k
  match k with
  | 0 => rfl
  | 1 => rfl
  | 2 => rfl
  | 3 => rfl
  | 4 => rfl
  | 5 => rfl
  | 6 => rfl
  | k + 7 => simp [va_up, tyG]
theorem tyG_1 {o : Nat} {id nm kd n : Int32} {z : Int32} : va_up (tyG o id nm kd n) 1 (.int z) = tyG o id z kd n := by
  funext k
  match k with
  | 0 => rfl
  | 1 => rfl
  | 2 => rfl
  | 3 => rfl
  | 4 => rfl
  | 5 => rfl
  | 6 => rfl
  | k + 7 => simp [va_up, tyG]
theorem tyG_2 {o : Nat} {id nm kd n : Int32} {z : Int32} : va_up (tyG o id nm kd n) 2 (.int z) = tyG o id nm z n := by
  funext k
  match k with
  | 0 => rfl
  | 1 => rfl
  | 2 => rfl
  | 3 => rfl
  | 4 => rfl
  | 5 => rfl
  | 6 => rfl
  | k + 7 => simp [va_up, tyG]
theorem tyG_3 {o : Nat} {id nm kd n : Int32} {z : Int32} : va_up (tyG o id nm kd n) 3 (.int z) = tyG o id nm kd z := by
  funext k
  match k with
  | 0 => rfl
  | 1 => rfl
  | 2 => rfl
  | 3 => rfl
  | 4 => rfl
  | 5 => rfl
  | 6 => rfl
  | k + 7 => simp [va_up, tyG]
theorem ckG_0 {c : Nat} {st en : Int32} {tk fq : Int64} {nt nc : Int32} {z : Int32} : va_up (ckG c st en tk fq nt nc) 0 (.int z) = ckG c z en tk fq nt nc := by
  funext k
  match k with
  | 0 => rfl
  | 1 => rfl
  | 2 => rfl
  | 3 => rfl
  | 4 => rfl
  | 5 => rfl
  | 6 => rfl
  | 7 => rfl
  | 8 => rfl
  | 9 => rfl
  | k + 10 => simp [va_up, ckG]
theorem ckG_1 {c : Nat} {st en : Int32} {tk fq : Int64} {nt nc : Int32} {z : Int32} : va_up (ckG c st en tk fq nt nc) 1 (.int z) = ckG c st z tk fq nt nc := by
  funext k
  match k with
  | 0 => rfl
  | 1 => rfl
  | 2 => rfl
  | 3 => rfl
  | 4 => rfl
  | 5 => rfl
  | 6 => rfl
  | 7 => rfl
  | 8 => rfl
  | 9 => rfl
  | k + 10 => simp [va_up, ckG]
theorem ckG_2 {c : Nat} {st en : Int32} {tk fq : Int64} {nt nc : Int32} {z : Int64} : va_up (ckG c st en tk fq nt nc) 2 (.long z) = ckG c st en z fq nt nc := by
  funext k
  match k with
  | 0 => rfl
  | 1 => rfl
  | 2 => rfl
  | 3 => rfl
  | 4 => rfl
  | 5 => rfl
  | 6 => rfl
  | 7 => rfl
  | 8 => rfl
  | 9 => rfl
  | k + 10 => simp [va_up, ckG]
theorem ckG_3 {c : Nat} {st en : Int32} {tk fq : Int64} {nt nc : Int32} {z : Int64} : va_up (ckG c st en tk fq nt nc) 3 (.long z) = ckG c st en tk z nt nc := by
  funext k
  match k with
  | 0 => rfl
  | 1 => rfl
  | 2 => rfl
  | 3 => rfl
  | 4 => rfl
  | 5 => rfl
  | 6 => rfl
  | 7 => rfl
  | 8 => rfl
  | 9 => rfl
  | k + 10 => simp [va_up, ckG]
theorem ckG_4 {c : Nat} {st en : Int32} {tk fq : Int64} {nt nc : Int32} {z : Int32} : va_up (ckG c st en tk fq nt nc) 4 (.int z) = ckG c st en tk fq z nc := by
  funext k
  match k with
  | 0 => rfl
  | 1 => rfl
  | 2 => rfl
  | 3 => rfl
  | 4 => rfl
  | 5 => rfl
  | 6 => rfl
  | 7 => rfl
  | 8 => rfl
  | 9 => rfl
  | k + 10 => simp [va_up, ckG]
theorem ckG_6 {c : Nat} {st en : Int32} {tk fq : Int64} {nt nc : Int32} {z : Int32} : va_up (ckG c st en tk fq nt nc) 6 (.int z) = ckG c st en tk fq nt z := by
  funext k
  match k with
  | 0 => rfl
  | 1 => rfl
  | 2 => rfl
  | 3 => rfl
  | 4 => rfl
  | 5 => rfl
  | 6 => rfl
  | 7 => rfl
  | 8 => rfl
  | 9 => rfl
  | k + 10 => simp [va_up, ckG]
section SEARCH
variable {X : Nat × (Nat → Int32)} {d : Nat} {S : am_S} {Q : am_R → Prop}
theorem fn_loop {o w : Nat} {id nm kd : Int32} {fs : List jFd} {f1 : Nat → Int32} (h : am_get S o = some (tyC o id nm kd (nI fs.length))) (h1 : am_get S (o + 1) = some (iA 8 f1)) (he : ∀ (i : Nat) (y : jFd), fs[i]? = some y → f1 i = nI y.1) (hb : ∀ (i : Nat) (y : jFd), fs[i]? = some y → y.1 < 2 ^ 31) (hl : fs.length ≤ 8) (ho : o < 900000) (hw : w < 2 ^ 31) :
    ∀ (m i : Nat), i + m = fs.length → Q (.inl (some (.int (oI (fsti (fun i => decide (fs[i]?.map (fun y => y.1) = some w)) m i)))), S) → wp X d 62 2 [some (.ref o), some (.int (nI w)), some (.int (nI i))] [] S Q := by
  intro m
  induction m with
  | zero =>
    intro i hi hq
    iterate 2 refine wp_step rfl rfl ?_
    refine wp_getg rfl h (by decide) rfl ?_
    refine wp_icmp rfl (fun c => ?_) (fun c => ?_)
    · replace c := n_ge_t (a := i) (b := fs.length) (by omega) (by omega) c
      refine wp_step rfl rfl ?_
      refine wp_iret rfl rfl rfl hq
    · replace c := n_ge_f (a := i) (b := fs.length) (by omega) (by omega) c
      omega
  | succ m ih =>
    intro i hi hq
    iterate 2 refine wp_step rfl rfl ?_
    refine wp_getg rfl h (by decide) rfl ?_
    refine wp_icmp rfl (fun c => ?_) (fun c => ?_)
    · replace c := n_ge_t (a := i) (b := fs.length) (by omega) (by omega) c
      omega
    · replace c := n_ge_f (a := i) (b := fs.length) (by omega) (by omega) c
      refine wp_step rfl rfl ?_
      refine wp_getg rfl h (by decide) rfl ?_
      refine wp_step rfl rfl ?_
      refine wp_ald rfl (Or.inl ⟨rfl, rfl⟩) (by omega) h1 (am_in_nI (by omega) (by decide)) ?_
      rw [nI_clamp (by omega)]
      obtain ⟨y, hy⟩ : ∃ y, fs[i]? = some y := ⟨fs[i], List.getElem?_eq_getElem (by omega)⟩
      rw [he i y hy]
      have hy1 : y.1 < 2 ^ 31 := hb i y hy
      unfold fsti at hq
      refine wp_step rfl rfl ?_
      refine wp_icmp rfl (fun c => ?_) (fun c => ?_)
      · replace c := n_ne_t (a := y.1) (b := w) (by omega) (by omega) c
        rw [if_neg (by rw [hy]; simp; omega)] at hq
        iterate 2 refine wp_step rfl rfl ?_
        rw [show nI i + Int32.ofInt 1 = nI (i + 1) from nI_add i 1]
        exact ih (i + 1) (by omega) hq
      · replace c := n_ne_f (a := y.1) (b := w) (by omega) (by omega) c
        rw [if_pos (by rw [hy]; simp; omega)] at hq
        refine wp_step rfl rfl ?_
        refine wp_iret rfl rfl rfl hq
theorem q_fieldNamed {o w : Nat} {id nm kd : Int32} {fs : List jFd} {f1 : Nat → Int32} (h : am_get S o = some (tyC o id nm kd (nI fs.length))) (h1 : am_get S (o + 1) = some (iA 8 f1)) (he : ∀ (i : Nat) (y : jFd), fs[i]? = some y → f1 i = nI y.1) (hb : ∀ (i : Nat) (y : jFd), fs[i]? = some y → y.1 < 2 ^ 31) (hl : fs.length ≤ 8) (ho : o < 900000) (hw : w < 2 ^ 31)
    (hq : Q (.inl (some (.int (oI (fdx fs w)))), S)) : ev X (d + 1) 62 [.ref o, .int (nI w)] S Q := by
  refine ev_wp (L0 := [some (.ref o), some (.int (nI w)), none]) (Nat.le_of_ble_eq_true rfl) rfl ?_
  iterate 2 refine wp_step rfl rfl ?_
  exact fn_loop h h1 he hb hl ho hw fs.length 0 (by omega) hq
theorem tw_loop {c w : Nat} {st en : Int32} {tk fq : Int64} {nc : Int32} {τ : jTT} (h : am_get S c = some (ckC c st en tk fq (nI τ.length) nc)) (hR : ckR S c) (hT : ckT S c τ) (hb : ∀ (i : Nat) (x : jTy), τ[i]? = some x → x.1 < 2 ^ 31) (hl : τ.length ≤ 10) (hc : c < 900000) (hw : w < 2 ^ 31) :
    ∀ (m i : Nat), i + m = τ.length → Q (.inl (some (.int (oI (fsti (fun i => decide (τ[i]?.map (fun x => x.1) = some w)) m i)))), S) → wp X d 11 2 [some (.ref c), some (.int (nI w)), some (.int (nI i))] [] S Q := by
  obtain ⟨F, h1, hF⟩ := hR
  intro m
  induction m with
  | zero =>
    intro i hi hq
    iterate 2 refine wp_step rfl rfl ?_
    refine wp_getg rfl h (by decide) rfl ?_
    refine wp_icmp rfl (fun c => ?_) (fun c => ?_)
    · replace c := n_ge_t (a := i) (b := τ.length) (by omega) (by omega) c
      refine wp_step rfl rfl ?_
      refine wp_iret rfl rfl rfl hq
    · replace c := n_ge_f (a := i) (b := τ.length) (by omega) (by omega) c
      omega
  | succ m ih =>
    intro i hi hq
    iterate 2 refine wp_step rfl rfl ?_
    refine wp_getg rfl h (by decide) rfl ?_
    refine wp_icmp rfl (fun c => ?_) (fun c => ?_)
    · replace c := n_ge_t (a := i) (b := τ.length) (by omega) (by omega) c
      omega
    · replace c := n_ge_f (a := i) (b := τ.length) (by omega) (by omega) c
      refine wp_step rfl rfl ?_
      refine wp_getg rfl h (by decide) rfl ?_
      refine wp_step rfl rfl ?_
      refine wp_aald rfl (by omega) h1 (by decide) (am_in_nI (by omega) (by decide)) ?_
      rw [nI_clamp (by omega)]
      rw [hF i (by omega)]
      obtain ⟨x, hx⟩ : ∃ x, τ[i]? = some x := ⟨τ[i], List.getElem?_eq_getElem (by omega)⟩
      have hx1 := (hT i x hx).1
      have hxb : x.1 < 2 ^ 31 := hb i x hx
      refine wp_getg rfl hx1 (by decide) rfl ?_
      unfold fsti at hq
      refine wp_step rfl rfl ?_
      refine wp_icmp rfl (fun c => ?_) (fun c => ?_)
      · replace c := n_ne_t (a := x.1) (b := w) (by omega) (by omega) c
        rw [if_neg (by rw [hx]; simp; omega)] at hq
        iterate 2 refine wp_step rfl rfl ?_
        rw [show nI i + Int32.ofInt 1 = nI (i + 1) from nI_add i 1]
        exact ih (i + 1) (by omega) hq
      · replace c := n_ne_f (a := x.1) (b := w) (by omega) (by omega) c
        rw [if_pos (by rw [hx]; simp; omega)] at hq
        refine wp_step rfl rfl ?_
        refine wp_iret rfl rfl rfl hq
theorem q_typeWithId {c w : Nat} {st en : Int32} {tk fq : Int64} {nc : Int32} {τ : jTT} (h : am_get S c = some (ckC c st en tk fq (nI τ.length) nc)) (hR : ckR S c) (hT : ckT S c τ) (hb : ∀ (i : Nat) (x : jTy), τ[i]? = some x → x.1 < 2 ^ 31) (hl : τ.length ≤ 10) (hc : c < 900000) (hw : w < 2 ^ 31)
    (hq : Q (.inl (some (.int (oI (tix τ w)))), S)) : ev X (d + 1) 11 [.ref c, .int (nI w)] S Q := by
  refine ev_wp (L0 := [some (.ref c), some (.int (nI w)), none]) (Nat.le_of_ble_eq_true rfl) rfl ?_
  iterate 2 refine wp_step rfl rfl ?_
  exact tw_loop h hR hT hb hl hc hw τ.length 0 (by omega) hq
end SEARCH
