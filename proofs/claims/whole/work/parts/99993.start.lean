/-! THE START: what the two objects are when they are made -/
def cO (S : am_S) (j ci n : Nat) (g : Nat → Value) : Bool := match am_get S j with
  | some (.inr (c, l)) => decide (c = ci ∧ l = (List.range n).map g)
  | _ => false
theorem cO_ok {S : am_S} {j ci n : Nat} {g : Nat → Value} (h : cO S j ci n g = true) : am_get S j = some (ob ci n g) := by
  unfold cO at h
  split at h
  · rename_i c l e
    obtain ⟨rfl, rfl⟩ := of_decide_eq_true h
    exact e
  · cases h
def cI (S : am_S) (j t n : Nat) (p : (Nat → Int32) → Bool) : Bool := match am_get S j with
  | some (.inl (t', n', .inl f)) => decide (t' = t ∧ n' = n) && p f
  | _ => false
theorem cI_ok {S : am_S} {j t n : Nat} {p : (Nat → Int32) → Bool} (h : cI S j t n p = true) : ∃ f, am_get S j = some (.inl (t, n, .inl f)) ∧ p f = true := by
  unfold cI at h
  split at h
  · rename_i t' n' f e
    rw [Bool.and_eq_true] at h
    obtain ⟨rfl, rfl⟩ := of_decide_eq_true h.1
    exact ⟨f, e, h.2⟩
  · cases h
def cL (S : am_S) (j n : Nat) (p : (Nat → Int64) → Bool) : Bool := match am_get S j with
  | some (.inl (t', n', .inr (.inl f))) => decide (t' = 1 ∧ n' = n) && p f
  | _ => false
theorem cL_ok {S : am_S} {j n : Nat} {p : (Nat → Int64) → Bool} (h : cL S j n p = true) : ∃ f, am_get S j = some (lA n f) ∧ p f = true := by
  unfold cL at h
  split at h
  · rename_i t' n' f e
    rw [Bool.and_eq_true] at h
    obtain ⟨rfl, rfl⟩ := of_decide_eq_true h.1
    exact ⟨f, e, h.2⟩
  · cases h
def cR (S : am_S) (j t n : Nat) (p : (Nat → Option Nat) → Bool) : Bool := match am_get S j with
  | some (.inl (t', n', .inr (.inr (.inr (.inr f))))) => decide (t' = t ∧ n' = n) && p f
  | _ => false
theorem cR_ok {S : am_S} {j t n : Nat} {p : (Nat → Option Nat) → Bool} (h : cR S j t n p = true) : ∃ f, am_get S j = some (rA t n f) ∧ p f = true := by
  unfold cR at h
  split at h
  · rename_i t' n' f e
    rw [Bool.and_eq_true] at h
    obtain ⟨rfl, rfl⟩ := of_decide_eq_true h.1
    exact ⟨f, e, h.2⟩
  · cases h
abbrev yI : (Nat → Int32) → Bool := fun _ => true
abbrev yL : (Nat → Int64) → Bool := fun _ => true
def stT (S : am_S) (o : Nat) : Bool := cO S o 7 7 (tyG o 0 0 0 0) && (cI S (o + 1) 0 8 yI && (cI S (o + 2) 0 8 yI && cI S (o + 3) 0 8 yI))
theorem stT_ok {S : am_S} {o : Nat} (h : stT S o = true) : cTs S o := by
  unfold stT at h
  rw [Bool.and_eq_true, Bool.and_eq_true, Bool.and_eq_true] at h
  obtain ⟨f1, h1, _⟩ := cI_ok h.2.1
  obtain ⟨f2, h2, _⟩ := cI_ok h.2.2.1
  obtain ⟨f3, h3, _⟩ := cI_ok h.2.2.2
  exact ⟨0, 0, 0, 0, f1, f2, f3, cO_ok h.1, h1, h2, h3⟩
def stC (S : am_S) (c : Nat) : Bool := cO S c 1 10 (ckG c 0 0 0 1 0 0) && (cR S (c + 1) 5 10 (fun f => (List.range 10).all (fun t => decide (f t = some (c + 5 + 4 * t)))) && ((List.range 10).all (fun t => stT S (c + 5 + 4 * t)) && (cI S (c + 2) 0 40 yI && (cL S (c + 3) 40 yL && cI S (c + 4) 0 40 yI))))
theorem stC_ok {S : am_S} {c : Nat} (h : stC S c = true) : ckA S c := by
  unfold stC at h
  rw [Bool.and_eq_true, Bool.and_eq_true, Bool.and_eq_true, Bool.and_eq_true, Bool.and_eq_true] at h
  obtain ⟨F, h1, h1'⟩ := cR_ok h.2.1
  obtain ⟨f1, h2, _⟩ := cI_ok h.2.2.2.1
  obtain ⟨f2, h3, _⟩ := cL_ok h.2.2.2.2.1
  obtain ⟨f3, h4, _⟩ := cI_ok h.2.2.2.2.2
  exact ⟨⟨⟨0, 0, 0, 1, 0, 0, cO_ok h.1⟩, ⟨F, h1, fun t ht => of_decide_eq_true (List.all_eq_true.mp h1' t (List.mem_range.mpr ht))⟩, fun t ht => stT_ok (List.all_eq_true.mp h.2.2.1 t (List.mem_range.mpr ht))⟩, ⟨(f1, f2, f3), h2, h3, h4⟩⟩
def stR1 (S : am_S) (R : Nat) : Bool := cO S R 4 7 (reG R 0 0) && (cI S (R + 8) 0 60 yI && (cL S (R + 9) 60 yL && (cI S (R + 10) 0 60 yI && (cR S (R + 1) 4 4 (fun f => (List.range 4).all (fun t => decide (f t = some (R + 11 + 45 * t)))) && (List.range 4).all (fun t => stC S (R + 11 + 45 * t))))))
def stV (S : am_S) (v : Nat) : Bool := cO S v 8 7 (vaG v 1 0) && (cI S (v + 1) 0 1201 (fun f => decide (f 0 = 1)) && (cL S (v + 2) 1201 (fun f => decide (f 0 = 0)) && (cI S (v + 3) 0 1201 yI && (cI S (v + 4) 0 1201 yI && cI S (v + 5) 3 960 yI))))
theorem stV_ok {S : am_S} {v : Nat} (h : stV S v = true) : ∃ A, vS S v 1 0 A := by
  unfold stV at h
  rw [Bool.and_eq_true, Bool.and_eq_true, Bool.and_eq_true, Bool.and_eq_true, Bool.and_eq_true] at h
  obtain ⟨f1, h1, g1⟩ := cI_ok h.2.1
  obtain ⟨f2, h2, g2⟩ := cL_ok h.2.2.1
  obtain ⟨f3, h3, _⟩ := cI_ok h.2.2.2.1
  obtain ⟨f4, h4, _⟩ := cI_ok h.2.2.2.2.1
  obtain ⟨f5, h5, _⟩ := cI_ok h.2.2.2.2.2
  exact ⟨(f1, f2, f3, f4, f5), cO_ok h.1, h1, h2, h3, h4, h5, Nat.le_refl _, of_decide_eq_true g1, of_decide_eq_true g2⟩
theorem stR_ok {S : am_S} {R : Nat} {b : Nat → Nat} (h : stR1 S R = true) (hv : stV S (R + 2) = true) : ∃ A E, reO S b 0 R 0 A E (1, [], []) := by
  unfold stR1 at h
  rw [Bool.and_eq_true, Bool.and_eq_true, Bool.and_eq_true, Bool.and_eq_true, Bool.and_eq_true] at h
  obtain ⟨f1, h1, _⟩ := cI_ok h.2.1
  obtain ⟨f2, h2, _⟩ := cL_ok h.2.2.1
  obtain ⟨f3, h3, _⟩ := cI_ok h.2.2.2.1
  obtain ⟨F, h4, h4'⟩ := cR_ok h.2.2.2.2.1
  obtain ⟨A, hA⟩ := stV_ok hv
  exact ⟨A, (f1, f2, f3), hA, ⟨cO_ok h.1, h1, h2, h3⟩, fun i y hy => (by simp at hy), by decide, fun y hy => (by cases hy), ⟨F, h4, fun c hc => of_decide_eq_true (List.all_eq_true.mp h4' c (List.mem_range.mpr hc))⟩, fun c ck hck => (by simp at hck), fun c hc => stC_ok (List.all_eq_true.mp h.2.2.2.2.2 c (List.mem_range.mpr hc)), by decide, by decide, fun ck hck => (by cases hck), by decide⟩
def stA (S : am_S) : Bool := cO S 0 9 10 (frG 11 202 0 (-1)) && (cO S 1 5 8 (srcG 0 0 0 0 0 0 (-1)) && (cI S 2 2 960 yI && (cO S 3 0 9 (cpG 0 0) && (cI S 4 0 240 yI && (cI S 5 0 240 yI && (cI S 6 0 240 yI && (cI S 7 0 241 (fun f => decide (f 0 = 0)) && (cI S 8 0 40 yI && (cL S 9 40 yL && cI S 10 0 40 yI)))))))))
def stB (S : am_S) : Bool := cO S 393 2 12 (flG 0 0 0 0 0 0 0 0) && (cI S 394 3 40 yI && (cI S 395 0 11 yI && (cI S 396 3 11 yI && (cL S 397 11 yL && (cI S 398 0 60 yI && (cO S 399 6 2 (taG 0) && (cL S 400 60 yL && (cO S 401 3 7 (grG 0) && (cL S 402 60 yL && (cI S 403 0 60 yI && (cI S 404 0 60 yI && (cL S 405 60 yL && (cL S 406 60 yL && cL S 407 60 yL)))))))))))))
/-- the model's fields at the start -/
def stI : Nat → Int32 := fun k => if k = 26 ∨ k = 28 ∨ k = 39 then -1 else 0
def stM (S : am_S) : Bool := cO S 408 10 58 (mkG stI 0 0) && (cI S 409 0 960 yI && (cI S 410 0 1920 (fun f => (List.range 1920).all (fun j => decide (f j = 0))) && (cI S 411 0 2 (fun f => decide (f 0 = 0)) && (cI S 412 0 2 (fun f => decide (f 0 = 0)) && (cI S 413 0 8 yI && (cI S 414 0 2 (fun f => decide (f 0 = 0)) && (cI S 415 0 120 yI && cI S 416 0 120 yI)))))))
def stN (S : am_S) : Bool := cI S 417 0 8 yI && (cL S 418 80 yL && (cI S 419 0 80 yI && (cI S 420 0 80 yI && (cI S 421 0 80 yI && (cI S 422 0 640 yI && (cL S 423 640 yL && (cI S 424 0 640 yI && (cI S 425 0 40 yI && (cL S 426 40 yL && (cI S 427 0 40 yI && (cI S 428 0 40 yI && (cI S 429 0 12 yI && (cI S 430 0 12 yI && cL S 431 12 yL)))))))))))))
def stP (S : am_S) : Bool := cI S 432 0 60 yI && (cL S 433 60 yL && (cL S 434 60 yL && (cI S 435 0 60 yI && (cI S 436 0 60 yI && (cL S 437 60 yL && (cL S 438 60 yL && (cL S 439 60 yL && (cL S 440 1 yL && (decide (S.2.2.1 ≤ 1000) && decide (S.2.2.2 ≤ 100000))))))))))
def st0 (S : am_S) : Bool := stR1 S 11 && (stV S 13 && (stR1 S 202 && (stV S 204 && (stA S && (stB S && (stM S && (stN S && stP S)))))))
set_option maxRecDepth 1000000 in
theorem st0_ok : st0 am_F0.2.2.2 = true := by decide +kernel
theorem st_cl {S : am_S} {b : Nat → Nat} (r1 : stR1 S 11 = true) (v1 : stV S 13 = true) (r2 : stR1 S 202 = true) (v2 : stV S 204 = true) (a : stA S = true) (q : stB S = true) : clI S 11 202 (-1) 0 (-1) [] [] [] b 0 (1, [], []) [] := by
  obtain ⟨A1, E1, hO1⟩ := stR_ok (b := b) r1 v1
  obtain ⟨A2, E2, hO2⟩ := stR_ok (b := b) r2 v2
  simp only [stA, Bool.and_eq_true] at a
  obtain ⟨a0, a1, a2, a3, a4, a5, a6, a7, a8, a9, a10⟩ := a
  simp only [stB, Bool.and_eq_true] at q
  obtain ⟨q1, q2, q3, q4, q5, q6, q7, q8, q9, q10, q11, q12, q13, q14, q15⟩ := q
  obtain ⟨f2, b2, _⟩ := cI_ok a2
  obtain ⟨f4, b4, _⟩ := cI_ok a4
  obtain ⟨f5, b5, _⟩ := cI_ok a5
  obtain ⟨f6, b6, _⟩ := cI_ok a6
  obtain ⟨f7, b7, c7⟩ := cI_ok a7
  obtain ⟨f8, b8, _⟩ := cI_ok a8
  obtain ⟨f9, b9, _⟩ := cL_ok a9
  obtain ⟨f10, b10, _⟩ := cI_ok a10
  obtain ⟨g2, d2, _⟩ := cI_ok q2
  obtain ⟨g3, d3, _⟩ := cI_ok q3
  obtain ⟨g4, d4, _⟩ := cI_ok q4
  obtain ⟨g5, d5, _⟩ := cL_ok q5
  obtain ⟨g6, d6, _⟩ := cI_ok q6
  obtain ⟨g8, d8, _⟩ := cL_ok q8
  obtain ⟨g10, d10, _⟩ := cL_ok q10
  obtain ⟨g11, d11, _⟩ := cI_ok q11
  obtain ⟨g12, d12, _⟩ := cI_ok q12
  obtain ⟨g13, d13, _⟩ := cL_ok q13
  obtain ⟨g14, d14, _⟩ := cL_ok q14
  obtain ⟨g15, d15, _⟩ := cL_ok q15
  exact ⟨Or.inl ⟨rfl, rfl⟩, cO_ok a0, ⟨0, 0, 0, 0, cO_ok a1, by decide, by decide, by decide⟩, ⟨f2, b2, fun i x hx => (by simp at hx)⟩, ⟨0, 0, (f4, f5, f6, f7, f8, f9, f10), cO_ok a3, b4, b5, b6, b7, b8, b9, b10, of_decide_eq_true c7⟩, reO_W hO2, ⟨0, A1, E1, hO1⟩, ⟨g6, d6, fun i e he => (by simp at he)⟩, ⟨(0, 0, [], 0, 0, 0, false), (g3, g4, g5), ⟨cO_ok q1, d3, d4, d5, trivial⟩, by decide⟩, ⟨g2, d2, fun i c hc => (by simp at hc)⟩, ⟨0, g8, cO_ok q7, d8⟩, ⟨(g10, g11, g12, g13, g14, g15), ⟨cO_ok q9, d10, d11, d12, d13, d14, d15⟩, fun i x hx => (by simp at hx)⟩⟩
theorem st_mo {S : am_S} (m : stM S = true) (n : stN S = true) (p : stP S = true) : moI S 0 (-1) 0 (-1) [] [] [] (fun _ => 0) 0 (1, [], []) [] (fun _ => 0) := by
  simp only [stM, Bool.and_eq_true] at m
  obtain ⟨m8, m9, m10, m11, m12, m13, m14, m15, m16⟩ := m
  simp only [stN, Bool.and_eq_true] at n
  obtain ⟨n17, n18, n19, n20, n21, n22, n23, n24, n25, n26, n27, n28, n29, n30, n31⟩ := n
  simp only [stP, Bool.and_eq_true] at p
  obtain ⟨p32, p33, p34, p35, p36, p37, p38, p39, p40, _⟩ := p
  obtain ⟨f9, a9, _⟩ := cI_ok m9
  obtain ⟨f10, a10, z10⟩ := cI_ok m10
  obtain ⟨f11, a11, z11⟩ := cI_ok m11
  obtain ⟨f12, a12, z12⟩ := cI_ok m12
  obtain ⟨f13, a13, _⟩ := cI_ok m13
  obtain ⟨f14, a14, z14⟩ := cI_ok m14
  obtain ⟨f15, a15, _⟩ := cI_ok m15
  obtain ⟨f16, a16, _⟩ := cI_ok m16
  obtain ⟨f17, a17, _⟩ := cI_ok n17
  obtain ⟨f18, a18, _⟩ := cL_ok n18
  obtain ⟨f19, a19, _⟩ := cI_ok n19
  obtain ⟨f20, a20, _⟩ := cI_ok n20
  obtain ⟨f21, a21, _⟩ := cI_ok n21
  obtain ⟨f22, a22, _⟩ := cI_ok n22
  obtain ⟨f23, a23, _⟩ := cL_ok n23
  obtain ⟨f24, a24, _⟩ := cI_ok n24
  obtain ⟨f25, a25, _⟩ := cI_ok n25
  obtain ⟨f26, a26, _⟩ := cL_ok n26
  obtain ⟨f27, a27, _⟩ := cI_ok n27
  obtain ⟨f28, a28, _⟩ := cI_ok n28
  obtain ⟨f29, a29, _⟩ := cI_ok n29
  obtain ⟨f30, a30, _⟩ := cI_ok n30
  obtain ⟨f31, a31, _⟩ := cL_ok n31
  obtain ⟨f32, a32, _⟩ := cI_ok p32
  obtain ⟨f33, a33, _⟩ := cL_ok p33
  obtain ⟨f34, a34, _⟩ := cL_ok p34
  obtain ⟨f35, a35, _⟩ := cI_ok p35
  obtain ⟨f36, a36, _⟩ := cI_ok p36
  obtain ⟨f37, a37, _⟩ := cL_ok p37
  obtain ⟨f38, a38, _⟩ := cL_ok p38
  obtain ⟨f39, a39, _⟩ := cL_ok p39
  have z : ∀ j, j < 1920 → f10 j = 0 := fun j hj => of_decide_eq_true (List.all_eq_true.mp z10 j (List.mem_range.mpr hj))
  have a8 : am_get S 408 = some (moC stI 0 0) := cO_ok m8
  exact ⟨stI, 0, 0, (f17, f18, f19, f20, f21, f22, f23, f24), (f14, f15, f16), (f12, f13), (f25, f26, f27), f9, f32, f10, f33, (f34, f35, f36, f37, f38, f39),
    ⟨a8, rfl, by decide, ⟨f10, a10, fun j hj => z _ (by omega)⟩, ⟨f11, a11, of_decide_eq_true z11⟩, by decide, rfl, rfl, ⟨a17, a18, a19, a20, a21, a22, a23, a24⟩, fun i y hy => (by simp at hy), ⟨a14, a15, a16⟩, ⟨of_decide_eq_true z14, fun i y hy => (by simp at hy)⟩, by decide, ⟨a12, a13⟩, ⟨of_decide_eq_true z12, fun i y hy => (by simp at hy)⟩, by decide, ⟨a25, a26, a27⟩⟩,
    ⟨rfl, a9, fun i x hx => (by simp at hx), rfl, rfl, rfl, rfl, a32, fun i x hx => (by simp at hx), ⟨a8, rfl, by decide, ⟨f28, a28, fun i x hx => (by simp at hx)⟩, fun c hc => (by cases hc), (f29, f30, f31), a29, a30, a31⟩, a33, rfl, ⟨a34, a35, a36, a37, a38, a39⟩, fun i x hx => (by simp at hx), a10, z⟩⟩
theorem st_lw : lwI am_F0.2.2.2 0 := by
  have h := st0_ok
  generalize am_F0.2.2.2 = S at h ⊢
  simp only [st0, Bool.and_eq_true] at h
  obtain ⟨r1, v1, r2, v2, a, q, m, n, p⟩ := h
  have hp := p
  simp only [stP, Bool.and_eq_true] at hp
  obtain ⟨_, _, _, _, _, _, _, _, p40, p41, p42⟩ := hp
  obtain ⟨g, hg, _⟩ := cL_ok p40
  exact ⟨11, 202, 0, -1, 0, -1, [], [], [], fun _ => 0, 0, (1, [], []), [], fun _ => 0, st_cl r1 v1 r2 v2 a q, st_mo m n p, ⟨by decide, fun x hx => (by cases hx), by decide, fun x hx => (by cases hx), by decide, fun x hx => (by cases hx), fun _ => (by show 0 < 256; decide), fun _ => (by show 0 < 256; decide), by decide, fun i ck hck => (by simp at hck), fun k y hy => (by simp at hy), fun k y ck hy => (by simp at hy), fun i ck hck => (by simp at hck), by decide, fun x hx => (by cases hx), by decide⟩, ⟨g, hg⟩, ⟨by have := of_decide_eq_true p41; omega, by have := of_decide_eq_true p42; omega⟩⟩

