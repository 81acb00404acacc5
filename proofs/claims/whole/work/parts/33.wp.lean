/-! the walk over my interpreter -/
theorem ev_mono : ∀ (f d : Nat) (m : Mr) (pc : Nat) (l : Lc) (st : List Value) (h : Hp) (x : Rs × Hp), ev f d m pc l st h = some x → ev (f + 1) d m pc l st h = some x
  | 0, _, _, _, _, _, _, _, hx => by unfold ev at hx; cases hx
  | f + 1, d, m, pc, l, st, h, x, hx => by
    rw [ev] at hx ⊢
    cases hd : decode (mB m) pc with
    | error q => rw [hd] at hx; cases hx
    | ok q =>
      obtain ⟨i, n⟩ := q
      rw [hd] at hx
      dsimp only at hx ⊢
      cases hs : stA m i n pc l st h with
      | none => rw [hs] at hx; cases hx
      | some A =>
        rw [hs] at hx
        match A, hx with
        | .inl (pc', l', st', h'), hx => exact ev_mono f d m pc' l' st' h' x hx
        | .inr (.inl r), hx => exact hx
        | .inr (.inr (m', as, rs, tf)), hx =>
          cases d with
          | zero => cases hx
          | succ d =>
            dsimp only at hx ⊢
            cases hc : ev f d m' 0 (lc0 m' as) [] h with
            | none => rw [hc] at hx; cases hx
            | some y =>
              rw [ev_mono f d m' 0 _ _ h y hc]
              rw [hc] at hx
              match y, hx with
              | (.inl v, h2), hx => exact ev_mono f (d + 1) m _ _ _ h2 x hx
              | (.inr a, h2), hx =>
                dsimp only at hx ⊢
                cases tf with
                | false => cases hx
                | true =>
                  simp only [if_true] at hx ⊢
                  cases hq : hnd m pc (hS h2 a).1 with
                  | none => rw [hq] at hx; exact hx
                  | some q => rw [hq] at hx; exact ev_mono f (d + 1) m _ _ _ h2 x hx
theorem ev_le {f f' d : Nat} {m : Mr} {pc : Nat} {l : Lc} {st : List Value} {h : Hp} {x : Rs × Hp} (hx : ev f d m pc l st h = some x) (hle : f ≤ f') : ev f' d m pc l st h = some x := by
  induction hle with
  | refl => exact hx
  | step _ ih => exact ev_mono _ _ _ _ _ _ _ _ ih
theorem ev_det {f f' d : Nat} {m : Mr} {pc : Nat} {l : Lc} {st : List Value} {h : Hp} {x y : Rs × Hp} (hx : ev f d m pc l st h = some x) (hy : ev f' d m pc l st h = some y) : x = y := by
  have h1 := ev_le hx (Nat.le_max_left f f')
  have h2 := ev_le hy (Nat.le_max_right f f')
  exact Option.some.inj (h1.symm.trans h2)
/-- from this point the method ends, and Q -/
def Wp (d : Nat) (m : Mr) (pc : Nat) (l : Lc) (st : List Value) (h : Hp) (Q : Rs → Hp → Prop) : Prop := ∃ f r h', ev f d m pc l st h = some (r, h') ∧ Q r h'
/-- two ends are one -/
theorem Wp.and {d : Nat} {m : Mr} {pc : Nat} {l : Lc} {st : List Value} {h : Hp} {Q Q' : Rs → Hp → Prop} (a : Wp d m pc l st h Q) (b : Wp d m pc l st h Q') : Wp d m pc l st h (fun r h' => Q r h' ∧ Q' r h') := by
  obtain ⟨f, r, h1, e1, q1⟩ := a
  obtain ⟨f', r', h2, e2, q2⟩ := b
  have := ev_det e1 e2
  simp only [Prod.mk.injEq] at this
  obtain ⟨rfl, rfl⟩ := this
  exact ⟨f, r, h1, e1, q1, q2⟩
theorem Wp.imp {d : Nat} {m : Mr} {pc : Nat} {l : Lc} {st : List Value} {h : Hp} {Q Q' : Rs → Hp → Prop} (a : Wp d m pc l st h Q) (k : ∀ r h', Q r h' → Q' r h') : Wp d m pc l st h Q' := by
  obtain ⟨f, r, h1, e1, q1⟩ := a
  exact ⟨f, r, h1, e1, k _ _ q1⟩
def QI (K : Int32 → Hp → Prop) (r : Rs) (h : Hp) : Prop := ∃ v, r = .inl (some (.int v)) ∧ K v h
def QL (K : Int64 → Hp → Prop) (r : Rs) (h : Hp) : Prop := ∃ v, r = .inl (some (.long v)) ∧ K v h
def QD (K : UInt64 → Hp → Prop) (r : Rs) (h : Hp) : Prop := ∃ v, r = .inl (some (.double v)) ∧ K v h
def QR (K : Nat → Hp → Prop) (r : Rs) (h : Hp) : Prop := ∃ v, r = .inl (some (.ref v)) ∧ K v h
def QV (K : Hp → Prop) (r : Rs) (h : Hp) : Prop := r = .inl none ∧ K h
def QIx (K : Int32 → Hp → Prop) (E : Nat → Hp → Prop) (r : Rs) (h : Hp) : Prop := QI K r h ∨ ∃ x, r = .inr x ∧ E x h
def QLx (K : Int64 → Hp → Prop) (E : Nat → Hp → Prop) (r : Rs) (h : Hp) : Prop := QL K r h ∨ ∃ x, r = .inr x ∧ E x h
def QDx (K : UInt64 → Hp → Prop) (E : Nat → Hp → Prop) (r : Rs) (h : Hp) : Prop := QD K r h ∨ ∃ x, r = .inr x ∧ E x h
def QVx (K : Hp → Prop) (E : Nat → Hp → Prop) (r : Rs) (h : Hp) : Prop := QV K r h ∨ ∃ x, r = .inr x ∧ E x h
/-- a call: it ends with K -/
def Ca (d : Nat) (m : Mr) (as : List Value) (h : Hp) (Q : Rs → Hp → Prop) : Prop := Wp d m 0 (lc0 m as) [] h Q
theorem ifp {c : Prop} [Decidable c] {A B : Prop} (h : c) (q : if c then A else B) : A := by rw [if_pos h] at q; exact q
theorem ifn {c : Prop} [Decidable c] {A B : Prop} (h : ¬ c) (q : if c then A else B) : B := by rw [if_neg h] at q; exact q
section WPR
variable {d : Nat} {m m' : Mr} {pc : Nat} {l : Lc} {st as rs : List Value} {h : Hp} {Q Q' : Rs → Hp → Prop}
theorem Wp.step {i : Instr} {n pc' : Nat} {l' : Lc} {st' : List Value} {h' : Hp} (hd : decode (mB m) pc = .ok (i, n)) (hs : stA m i n pc l st h = some (.inl (pc', l', st', h'))) (k : Wp d m pc' l' st' h' Q) : Wp d m pc l st h Q := by
  obtain ⟨f, r, h1, e1, q1⟩ := k
  refine ⟨f + 1, r, h1, ?_, q1⟩
  rw [ev, hd]
  dsimp only
  rw [hs]
  exact e1
theorem Wp.fin {i : Instr} {n : Nat} {r : Rs} {h' : Hp} (hd : decode (mB m) pc = .ok (i, n)) (hs : stA m i n pc l st h = some (.inr (.inl (r, h')))) (k : Q r h') : Wp d m pc l st h Q := by
  refine ⟨1, r, h', ?_, k⟩
  rw [ev, hd]
  dsimp only
  rw [hs]
theorem Wp.call {i : Instr} {n : Nat} {tf : Bool} (hd : decode (mB m) pc = .ok (i, n)) (hs : stA m i n pc l st h = some (.inr (.inr (m', as, rs, tf)))) (k : Ca d m' as h Q')
    (k1 : ∀ v h1, Q' (.inl v) h1 → Wp (d + 1) m (pc + 3) l (v.toList ++ rs) h1 Q)
    (k2 : ∀ x h1, Q' (.inr x) h1 → tf = true ∧ ((∃ q, hnd m pc (hS h1 x).1 = some q ∧ Wp (d + 1) m q l [.ref x] h1 Q) ∨ (hnd m pc (hS h1 x).1 = none ∧ (mH m).isEmpty = true ∧ Q (.inr x) h1))) : Wp (d + 1) m pc l st h Q := by
  obtain ⟨f, r, h1, e1, q1⟩ := k
  match r, q1, e1 with
  | .inl v, q1, e1 =>
    obtain ⟨f', r', h2, e2, q2⟩ := k1 v h1 q1
    refine ⟨max f f' + 1, r', h2, ?_, q2⟩
    rw [ev, hd]
    dsimp only
    rw [hs]
    dsimp only
    rw [ev_le e1 (Nat.le_max_left f f')]
    exact ev_le e2 (Nat.le_max_right f f')
  | .inr x, q1, e1 =>
    obtain ⟨rfl, ⟨q, hq, f', r', h2, e2, q2⟩ | ⟨hq, hm, q2⟩⟩ := k2 x h1 q1
    · refine ⟨max f f' + 1, r', h2, ?_, q2⟩
      rw [ev, hd]
      dsimp only
      rw [hs]
      dsimp only
      rw [ev_le e1 (Nat.le_max_left f f')]
      simp only [if_true]
      rw [hq]
      exact ev_le e2 (Nat.le_max_right f f')
    · refine ⟨f + 1, .inr x, h1, ?_, q2⟩
      rw [ev, hd]
      dsimp only
      rw [hs]
      dsimp only
      rw [e1]
      simp only [if_true]
      rw [hq]
      simp only [hm, if_true]
theorem V.iconst {k : Int} {x : Int32} (hd : decode (mB m) pc = .ok (.iconst k, 1)) (hx : Int32.ofInt k = x) (kk : Wp d m (pc + 1) l (.int x :: st) h Q) : Wp d m pc l (st) h Q := Wp.step hd (by subst hx; rfl) kk
theorem V.bipush {k : Int} {x : Int32} (hd : decode (mB m) pc = .ok (.bipush k, 2)) (hx : (Int8.ofInt k).toInt32 = x) (kk : Wp d m (pc + 2) l (.int x :: st) h Q) : Wp d m pc l (st) h Q := Wp.step hd (by subst hx; rfl) kk
theorem V.sipush {k : Int} {x : Int32} (hd : decode (mB m) pc = .ok (.sipush k, 3)) (hx : (Int16.ofInt k).toInt32 = x) (kk : Wp d m (pc + 3) l (.int x :: st) h Q) : Wp d m pc l (st) h Q := Wp.step hd (by subst hx; rfl) kk
theorem V.lconst {k : _root_.Fin 2} {x : Int64} (hd : decode (mB m) pc = .ok (.lconst k, 1)) (hx : Int64.ofNat k.val = x) (kk : Wp d m (pc + 1) l (.long x :: st) h Q) : Wp d m pc l (st) h Q := Wp.step hd (by subst hx; rfl) kk
theorem V.dconst0 (hd : decode (mB m) pc = .ok (.dconst 0, 1)) (kk : Wp d m (pc + 1) l (.double 0 :: st) h Q) : Wp d m pc l (st) h Q := Wp.step hd (rfl) kk
theorem V.aconst_null (hd : decode (mB m) pc = .ok (.aconst_null, 1)) (kk : Wp d m (pc + 1) l (.ref 0 :: st) h Q) : Wp d m pc l (st) h Q := Wp.step hd (rfl) kk
theorem V.ldc2_w {k : Nat} {v : Value} (hd : decode (mB m) pc = .ok (.ldc2_w k, 3)) (hv : cstOf (mC m) k = some v) (kk : Wp d m (pc + 3) l (v :: st) h Q) : Wp d m pc l (st) h Q := Wp.step hd (by show (match cstOf (mC m) k with | some v => _ | none => _) = _; rw [hv]) kk
theorem V.iload_n {k : _root_.Fin 4} {x : Int32} (hd : decode (mB m) pc = .ok (.iload_n k, 1)) (hl : l[k.val]? = some (some (.int x))) (kk : Wp d m (pc + 1) l (.int x :: st) h Q) : Wp d m pc l (st) h Q := Wp.step hd (by show (match ldI l k.val (pc + 1) st with | some (a, b, c) => _ | none => _) = _; unfold ldI; rw [hl]) kk
theorem V.iload {k : Nat} {x : Int32} (hd : decode (mB m) pc = .ok (.iload k, 2)) (hl : l[k]? = some (some (.int x))) (kk : Wp d m (pc + 2) l (.int x :: st) h Q) : Wp d m pc l (st) h Q := Wp.step hd (by show (match ldI l k (pc + 2) st with | some (a, b, c) => _ | none => _) = _; unfold ldI; rw [hl]) kk
theorem V.istore_n {k : _root_.Fin 4} {x : Int32} {l' : Lc} (hd : decode (mB m) pc = .ok (.istore_n k, 1)) (hl : st1 l k.val (.int x) = l') (hb : k.val < l.length) (k1 : Wp d m (pc + 1) l' st h Q) : Wp d m pc l (.int x :: st) h Q := Wp.step hd (by subst hl; show (match tI l k.val (pc + 1) (.int x :: st) with | some (a, b, c) => _ | none => _) = _; unfold tI; dsimp only; rw [if_pos hb]) k1
theorem V.istore {k : Nat} {x : Int32} {l' : Lc} (hd : decode (mB m) pc = .ok (.istore k, 2)) (hl : st1 l k (.int x) = l') (hb : k < l.length) (k1 : Wp d m (pc + 2) l' st h Q) : Wp d m pc l (.int x :: st) h Q := Wp.step hd (by subst hl; show (match tI l k (pc + 2) (.int x :: st) with | some (a, b, c) => _ | none => _) = _; unfold tI; dsimp only; rw [if_pos hb]) k1
theorem V.lload_n {k : _root_.Fin 4} {x : Int64} (hd : decode (mB m) pc = .ok (.lload_n k, 1)) (hl : l[k.val]? = some (some (.long x))) (kk : Wp d m (pc + 1) l (.long x :: st) h Q) : Wp d m pc l (st) h Q := Wp.step hd (by show (match ldL l k.val (pc + 1) st with | some (a, b, c) => _ | none => _) = _; unfold ldL; rw [hl]) kk
theorem V.lload {k : Nat} {x : Int64} (hd : decode (mB m) pc = .ok (.lload k, 2)) (hl : l[k]? = some (some (.long x))) (kk : Wp d m (pc + 2) l (.long x :: st) h Q) : Wp d m pc l (st) h Q := Wp.step hd (by show (match ldL l k (pc + 2) st with | some (a, b, c) => _ | none => _) = _; unfold ldL; rw [hl]) kk
theorem V.lstore_n {k : _root_.Fin 4} {x : Int64} {l' : Lc} (hd : decode (mB m) pc = .ok (.lstore_n k, 1)) (hl : st2 l k.val (.long x) = l') (hb : k.val + 1 < l.length) (k1 : Wp d m (pc + 1) l' st h Q) : Wp d m pc l (.long x :: st) h Q := Wp.step hd (by subst hl; show (match tL l k.val (pc + 1) (.long x :: st) with | some (a, b, c) => _ | none => _) = _; unfold tL; dsimp only; rw [if_pos hb]) k1
theorem V.lstore {k : Nat} {x : Int64} {l' : Lc} (hd : decode (mB m) pc = .ok (.lstore k, 2)) (hl : st2 l k (.long x) = l') (hb : k + 1 < l.length) (k1 : Wp d m (pc + 2) l' st h Q) : Wp d m pc l (.long x :: st) h Q := Wp.step hd (by subst hl; show (match tL l k (pc + 2) (.long x :: st) with | some (a, b, c) => _ | none => _) = _; unfold tL; dsimp only; rw [if_pos hb]) k1
theorem V.dload_n {k : _root_.Fin 4} {x : UInt64} (hd : decode (mB m) pc = .ok (.dload_n k, 1)) (hl : l[k.val]? = some (some (.double x))) (kk : Wp d m (pc + 1) l (.double x :: st) h Q) : Wp d m pc l (st) h Q := Wp.step hd (by show (match ldD l k.val (pc + 1) st with | some (a, b, c) => _ | none => _) = _; unfold ldD; rw [hl]) kk
theorem V.dload {k : Nat} {x : UInt64} (hd : decode (mB m) pc = .ok (.dload k, 2)) (hl : l[k]? = some (some (.double x))) (kk : Wp d m (pc + 2) l (.double x :: st) h Q) : Wp d m pc l (st) h Q := Wp.step hd (by show (match ldD l k (pc + 2) st with | some (a, b, c) => _ | none => _) = _; unfold ldD; rw [hl]) kk
theorem V.dstore_n {k : _root_.Fin 4} {x : UInt64} {l' : Lc} (hd : decode (mB m) pc = .ok (.dstore_n k, 1)) (hl : st2 l k.val (.double x) = l') (hb : k.val + 1 < l.length) (k1 : Wp d m (pc + 1) l' st h Q) : Wp d m pc l (.double x :: st) h Q := Wp.step hd (by subst hl; show (match tD l k.val (pc + 1) (.double x :: st) with | some (a, b, c) => _ | none => _) = _; unfold tD; dsimp only; rw [if_pos hb]) k1
theorem V.dstore {k : Nat} {x : UInt64} {l' : Lc} (hd : decode (mB m) pc = .ok (.dstore k, 2)) (hl : st2 l k (.double x) = l') (hb : k + 1 < l.length) (k1 : Wp d m (pc + 2) l' st h Q) : Wp d m pc l (.double x :: st) h Q := Wp.step hd (by subst hl; show (match tD l k (pc + 2) (.double x :: st) with | some (a, b, c) => _ | none => _) = _; unfold tD; dsimp only; rw [if_pos hb]) k1
theorem V.aload_n {k : _root_.Fin 4} {x : Nat} (hd : decode (mB m) pc = .ok (.aload_n k, 1)) (hl : l[k.val]? = some (some (.ref x))) (kk : Wp d m (pc + 1) l (.ref x :: st) h Q) : Wp d m pc l (st) h Q := Wp.step hd (by show (match ldA l k.val (pc + 1) st with | some (a, b, c) => _ | none => _) = _; unfold ldA; rw [hl]) kk
theorem V.aload {k : Nat} {x : Nat} (hd : decode (mB m) pc = .ok (.aload k, 2)) (hl : l[k]? = some (some (.ref x))) (kk : Wp d m (pc + 2) l (.ref x :: st) h Q) : Wp d m pc l (st) h Q := Wp.step hd (by show (match ldA l k (pc + 2) st with | some (a, b, c) => _ | none => _) = _; unfold ldA; rw [hl]) kk
theorem V.astore_n {k : _root_.Fin 4} {x : Nat} {l' : Lc} (hd : decode (mB m) pc = .ok (.astore_n k, 1)) (hl : st1 l k.val (.ref x) = l') (hb : k.val < l.length) (k1 : Wp d m (pc + 1) l' st h Q) : Wp d m pc l (.ref x :: st) h Q := Wp.step hd (by subst hl; show (match tA l k.val (pc + 1) (.ref x :: st) with | some (a, b, c) => _ | none => _) = _; unfold tA; dsimp only; rw [if_pos hb]) k1
theorem V.astore {k : Nat} {x : Nat} {l' : Lc} (hd : decode (mB m) pc = .ok (.astore k, 2)) (hl : st1 l k (.ref x) = l') (hb : k < l.length) (k1 : Wp d m (pc + 2) l' st h Q) : Wp d m pc l (.ref x :: st) h Q := Wp.step hd (by subst hl; show (match tA l k (pc + 2) (.ref x :: st) with | some (a, b, c) => _ | none => _) = _; unfold tA; dsimp only; rw [if_pos hb]) k1
theorem V.iinc {k : Nat} {c : Int} {x y : Int32} {l' : Lc} (hd : decode (mB m) pc = .ok (.iinc k c, 3)) (hl : l[k]? = some (some (.int x))) (hy : x + Int32.ofInt c = y) (hl' : st1 l k (.int y) = l') (k1 : Wp d m (pc + 3) l' st h Q) : Wp d m pc l st h Q := Wp.step hd (by subst hy; subst hl'; show (match (if 3 = 3 then (match l[k]? with | some (some (.int x)) => some (pc + 3, st1 l k (.int (x + Int32.ofInt c)), st) | _ => none) else none : Option Nx) with | some (a, b, c) => _ | none => _) = _; rw [if_pos rfl, hl]) k1
theorem V.iadd {x y : Int32} (hd : decode (mB m) pc = .ok (.iadd, 1)) (kk : Wp d m (pc + 1) l (.int (x + y) :: st) h Q) : Wp d m pc l (.int y :: .int x :: st) h Q := Wp.step hd (rfl) kk
theorem V.isub {x y : Int32} (hd : decode (mB m) pc = .ok (.isub, 1)) (kk : Wp d m (pc + 1) l (.int (x - y) :: st) h Q) : Wp d m pc l (.int y :: .int x :: st) h Q := Wp.step hd (rfl) kk
theorem V.imul {x y : Int32} (hd : decode (mB m) pc = .ok (.imul, 1)) (kk : Wp d m (pc + 1) l (.int (x * y) :: st) h Q) : Wp d m pc l (.int y :: .int x :: st) h Q := Wp.step hd (rfl) kk
theorem V.iand {x y : Int32} (hd : decode (mB m) pc = .ok (.iand, 1)) (kk : Wp d m (pc + 1) l (.int (x &&& y) :: st) h Q) : Wp d m pc l (.int y :: .int x :: st) h Q := Wp.step hd (rfl) kk
theorem V.ior {x y : Int32} (hd : decode (mB m) pc = .ok (.ior, 1)) (kk : Wp d m (pc + 1) l (.int (x ||| y) :: st) h Q) : Wp d m pc l (.int y :: .int x :: st) h Q := Wp.step hd (rfl) kk
theorem V.ishl {x y : Int32} (hd : decode (mB m) pc = .ok (.ishl, 1)) (kk : Wp d m (pc + 1) l (.int (x <<< (y &&& 31)) :: st) h Q) : Wp d m pc l (.int y :: .int x :: st) h Q := Wp.step hd (rfl) kk
theorem V.ishr {x y : Int32} (hd : decode (mB m) pc = .ok (.ishr, 1)) (kk : Wp d m (pc + 1) l (.int (x >>> (y &&& 31)) :: st) h Q) : Wp d m pc l (.int y :: .int x :: st) h Q := Wp.step hd (rfl) kk
theorem V.ladd {x y : Int64} (hd : decode (mB m) pc = .ok (.ladd, 1)) (kk : Wp d m (pc + 1) l (.long (x + y) :: st) h Q) : Wp d m pc l (.long y :: .long x :: st) h Q := Wp.step hd (rfl) kk
theorem V.lsub {x y : Int64} (hd : decode (mB m) pc = .ok (.lsub, 1)) (kk : Wp d m (pc + 1) l (.long (x - y) :: st) h Q) : Wp d m pc l (.long y :: .long x :: st) h Q := Wp.step hd (rfl) kk
theorem V.lmul {x y : Int64} (hd : decode (mB m) pc = .ok (.lmul, 1)) (kk : Wp d m (pc + 1) l (.long (x * y) :: st) h Q) : Wp d m pc l (.long y :: .long x :: st) h Q := Wp.step hd (rfl) kk
theorem V.land {x y : Int64} (hd : decode (mB m) pc = .ok (.land, 1)) (kk : Wp d m (pc + 1) l (.long (x &&& y) :: st) h Q) : Wp d m pc l (.long y :: .long x :: st) h Q := Wp.step hd (rfl) kk
theorem V.lor {x y : Int64} (hd : decode (mB m) pc = .ok (.lor, 1)) (kk : Wp d m (pc + 1) l (.long (x ||| y) :: st) h Q) : Wp d m pc l (.long y :: .long x :: st) h Q := Wp.step hd (rfl) kk
theorem V.lxor {x y : Int64} (hd : decode (mB m) pc = .ok (.lxor, 1)) (kk : Wp d m (pc + 1) l (.long (x ^^^ y) :: st) h Q) : Wp d m pc l (.long y :: .long x :: st) h Q := Wp.step hd (rfl) kk
theorem V.lneg {x : Int64} (hd : decode (mB m) pc = .ok (.lneg, 1)) (kk : Wp d m (pc + 1) l (.long (-x) :: st) h Q) : Wp d m pc l (.long x :: st) h Q := Wp.step hd (rfl) kk
theorem V.lshl {x : Int64} {y : Int32} (hd : decode (mB m) pc = .ok (.lshl, 1)) (kk : Wp d m (pc + 1) l (.long (x <<< (y.toInt64 &&& 63)) :: st) h Q) : Wp d m pc l (.int y :: .long x :: st) h Q := Wp.step hd (rfl) kk
theorem V.lshr {x : Int64} {y : Int32} (hd : decode (mB m) pc = .ok (.lshr, 1)) (kk : Wp d m (pc + 1) l (.long (x >>> (y.toInt64 &&& 63)) :: st) h Q) : Wp d m pc l (.int y :: .long x :: st) h Q := Wp.step hd (rfl) kk
theorem V.lushr {x : Int64} {y : Int32} (hd : decode (mB m) pc = .ok (.lushr, 1)) (kk : Wp d m (pc + 1) l (.long ((x.toUInt64 >>> (y.toInt64.toUInt64 &&& Int64.toUInt64 63)).toInt64) :: st) h Q) : Wp d m pc l (.int y :: .long x :: st) h Q := Wp.step hd (rfl) kk
theorem V.lcmp {x y : Int64} (hd : decode (mB m) pc = .ok (.lcmp, 1)) (kk : Wp d m (pc + 1) l (.int (lg_cmp x y) :: st) h Q) : Wp d m pc l (.long y :: .long x :: st) h Q := Wp.step hd (rfl) kk
theorem V.dcmp {x y : UInt64} {op : _} (hd : decode (mB m) pc = .ok (.dcmp op, 1)) (k : Wp d m (pc + 1) l (.int (Op.cmpValue (FP.dcmp x y) op) :: st) h Q) : Wp d m pc l (.double y :: .double x :: st) h Q := Wp.step hd rfl k
theorem V.dneg {x : UInt64} (hd : decode (mB m) pc = .ok (.dneg, 1)) (kk : Wp d m (pc + 1) l (.double (FP.dneg x) :: st) h Q) : Wp d m pc l (.double x :: st) h Q := Wp.step hd (rfl) kk
theorem V.i2l {x : Int32} (hd : decode (mB m) pc = .ok (.i2l, 1)) (kk : Wp d m (pc + 1) l (.long x.toInt64 :: st) h Q) : Wp d m pc l (.int x :: st) h Q := Wp.step hd (rfl) kk
theorem V.l2i {x : Int64} (hd : decode (mB m) pc = .ok (.l2i, 1)) (kk : Wp d m (pc + 1) l (.int x.toInt32 :: st) h Q) : Wp d m pc l (.long x :: st) h Q := Wp.step hd (rfl) kk
theorem V.i2b {x : Int32} (hd : decode (mB m) pc = .ok (.i2b, 1)) (kk : Wp d m (pc + 1) l (.int x.toInt8.toInt32 :: st) h Q) : Wp d m pc l (.int x :: st) h Q := Wp.step hd (rfl) kk
theorem V.i2d {x : Int32} (hd : decode (mB m) pc = .ok (.i2d, 1)) (kk : Wp d m (pc + 1) l (.double (FP.i2d x) :: st) h Q) : Wp d m pc l (.int x :: st) h Q := Wp.step hd (rfl) kk
theorem V.l2d {x : Int64} (hd : decode (mB m) pc = .ok (.l2d, 1)) (kk : Wp d m (pc + 1) l (.double (FP.l2d x) :: st) h Q) : Wp d m pc l (.long x :: st) h Q := Wp.step hd (rfl) kk
theorem V.dupI {x : Int32} (hd : decode (mB m) pc = .ok (.dup, 1)) (kk : Wp d m (pc + 1) l (.int x :: .int x :: st) h Q) : Wp d m pc l (.int x :: st) h Q := Wp.step hd (rfl) kk
theorem V.dupR {x : Nat} (hd : decode (mB m) pc = .ok (.dup, 1)) (kk : Wp d m (pc + 1) l (.ref x :: .ref x :: st) h Q) : Wp d m pc l (.ref x :: st) h Q := Wp.step hd (rfl) kk
theorem V.dup2 {x : Nat} {y : Int32} (hd : decode (mB m) pc = .ok (.dup2, 1)) (kk : Wp d m (pc + 1) l (.int y :: .ref x :: .int y :: .ref x :: st) h Q) : Wp d m pc l (.int y :: .ref x :: st) h Q := Wp.step hd (rfl) kk
theorem V.popI {x : Int32} (hd : decode (mB m) pc = .ok (.pop, 1)) (kk : Wp d m (pc + 1) l (st) h Q) : Wp d m pc l (.int x :: st) h Q := Wp.step hd (rfl) kk
theorem V.popR {x : Nat} (hd : decode (mB m) pc = .ok (.pop, 1)) (kk : Wp d m (pc + 1) l (st) h Q) : Wp d m pc l (.ref x :: st) h Q := Wp.step hd (rfl) kk
theorem V.idiv {x y : Int32} (hd : decode (mB m) pc = .ok (.idiv, 1)) (hy : ¬ y = 0) (kk : Wp d m (pc + 1) l (.int (x / y) :: st) h Q) : Wp d m pc l (.int y :: .int x :: st) h Q := Wp.step hd (by show (if ¬ y = 0 then _ else none) = _; rw [if_pos hy]) kk
theorem V.irem {x y : Int32} (hd : decode (mB m) pc = .ok (.irem, 1)) (hy : ¬ y = 0) (kk : Wp d m (pc + 1) l (.int (x - x / y * y) :: st) h Q) : Wp d m pc l (.int y :: .int x :: st) h Q := Wp.step hd (by show (if ¬ y = 0 then _ else none) = _; rw [if_pos hy]) kk
theorem V.ldiv {x y : Int64} (hd : decode (mB m) pc = .ok (.ldiv, 1)) (hy : ¬ y = 0) (kk : Wp d m (pc + 1) l (.long (x / y) :: st) h Q) : Wp d m pc l (.long y :: .long x :: st) h Q := Wp.step hd (by show (if ¬ y = 0 then _ else none) = _; rw [if_pos hy]) kk
theorem V.dadd {x y : UInt64} (hd : decode (mB m) pc = .ok (.dadd, 1)) (hy : (FP.dadd x y) &&& 0x7fffffffffffffff ≤ 0x7ff0000000000000) (kk : Wp d m (pc + 1) l (.double (FP.dadd x y) :: st) h Q) : Wp d m pc l (.double y :: .double x :: st) h Q := Wp.step hd (by show (if (FP.dadd x y) &&& 0x7fffffffffffffff ≤ 0x7ff0000000000000 then _ else none) = _; rw [if_pos hy]) kk
theorem V.dmul {x y : UInt64} (hd : decode (mB m) pc = .ok (.dmul, 1)) (hy : (FP.dmul x y) &&& 0x7fffffffffffffff ≤ 0x7ff0000000000000) (kk : Wp d m (pc + 1) l (.double (FP.dmul x y) :: st) h Q) : Wp d m pc l (.double y :: .double x :: st) h Q := Wp.step hd (by show (if (FP.dmul x y) &&& 0x7fffffffffffffff ≤ 0x7ff0000000000000 then _ else none) = _; rw [if_pos hy]) kk
theorem V.goto {off : Int} {t : Nat} (hd : decode (mB m) pc = .ok (.goto off, 3)) (ht : okt pc off = true ∧ tgt pc off = t) (k : Wp d m t l st h Q) : Wp d m pc l st h Q := by
  obtain ⟨h1, rfl⟩ := ht
  exact Wp.step hd (by show (match (if okt pc off then some (tgt pc off, l, st) else none : Option Nx) with | some (a, b, c) => _ | none => _) = _; rw [if_pos h1]) k
theorem V.if1 {c : ClassFile.Cond} {off : Int} {t : Nat} {x : Int32} (hd : decode (mB m) pc = .ok (.ifCond c off, 3)) (ht : okt pc off = true ∧ tgt pc off = t) (k1 : cnd1 c x = true → Wp d m t l st h Q) (k2 : cnd1 c x = false → Wp d m (pc + 3) l st h Q) : Wp d m pc l (.int x :: st) h Q := by
  obtain ⟨h1, rfl⟩ := ht
  cases hc : cnd1 c x with
  | true => exact Wp.step hd (by show (match (if okt pc off then some (if cnd1 c x then tgt pc off else pc + 3, l, st) else none : Option Nx) with | some (a, b, c) => _ | none => _) = _; rw [if_pos h1, if_pos hc]) (k1 hc)
  | false => exact Wp.step hd (by show (match (if okt pc off then some (if cnd1 c x then tgt pc off else pc + 3, l, st) else none : Option Nx) with | some (a, b, c) => _ | none => _) = _; rw [if_pos h1, if_neg (by rw [hc]; decide)]) (k2 hc)
theorem V.if2 {c : ClassFile.Cond} {off : Int} {t : Nat} {x y : Int32} (hd : decode (mB m) pc = .ok (.if_icmp c off, 3)) (ht : okt pc off = true ∧ tgt pc off = t) (k1 : cnd2 c x y = true → Wp d m t l st h Q) (k2 : cnd2 c x y = false → Wp d m (pc + 3) l st h Q) : Wp d m pc l (.int y :: .int x :: st) h Q := by
  obtain ⟨h1, rfl⟩ := ht
  cases hc : cnd2 c x y with
  | true => exact Wp.step hd (by show (match (if okt pc off then some (if cnd2 c x y then tgt pc off else pc + 3, l, st) else none : Option Nx) with | some (a, b, c) => _ | none => _) = _; rw [if_pos h1, if_pos hc]) (k1 hc)
  | false => exact Wp.step hd (by show (match (if okt pc off then some (if cnd2 c x y then tgt pc off else pc + 3, l, st) else none : Option Nx) with | some (a, b, c) => _ | none => _) = _; rw [if_pos h1, if_neg (by rw [hc]; decide)]) (k2 hc)
theorem V.if_eq {off : Int} {t : Nat} {x : Int32} (hd : decode (mB m) pc = .ok (.ifCond .eq off, 3)) (ht : okt pc off = true ∧ tgt pc off = t) (k1 : x = 0 → Wp d m (t) l st h Q) (k2 : ¬ x = 0 → Wp d m (pc + 3) l st h Q) : Wp d m pc l (.int x :: st) h Q := V.if1 hd ht (fun hc => k1 (of_decide_eq_true hc)) (fun hc => k2 (of_decide_eq_false hc))
theorem V.if_ne {off : Int} {t : Nat} {x : Int32} (hd : decode (mB m) pc = .ok (.ifCond .ne off, 3)) (ht : okt pc off = true ∧ tgt pc off = t) (k1 : x = 0 → Wp d m (pc + 3) l st h Q) (k2 : ¬ x = 0 → Wp d m (t) l st h Q) : Wp d m pc l (.int x :: st) h Q := V.if1 hd ht (fun hc => k2 (of_decide_eq_true hc)) (fun hc => k1 (Decidable.of_not_not (of_decide_eq_false hc)))
theorem V.if_lt {off : Int} {t : Nat} {x : Int32} (hd : decode (mB m) pc = .ok (.ifCond .lt off, 3)) (ht : okt pc off = true ∧ tgt pc off = t) (k1 : x < 0 → Wp d m (t) l st h Q) (k2 : ¬ x < 0 → Wp d m (pc + 3) l st h Q) : Wp d m pc l (.int x :: st) h Q := V.if1 hd ht (fun hc => k1 (of_decide_eq_true hc)) (fun hc => k2 (of_decide_eq_false hc))
theorem V.if_ge {off : Int} {t : Nat} {x : Int32} (hd : decode (mB m) pc = .ok (.ifCond .ge off, 3)) (ht : okt pc off = true ∧ tgt pc off = t) (k1 : x < 0 → Wp d m (pc + 3) l st h Q) (k2 : ¬ x < 0 → Wp d m (t) l st h Q) : Wp d m pc l (.int x :: st) h Q := V.if1 hd ht (fun hc => k2 (Int32.not_lt.mpr (of_decide_eq_true hc))) (fun hc => k1 (Int32.not_le.mp (of_decide_eq_false hc)))
theorem V.if_gt {off : Int} {t : Nat} {x : Int32} (hd : decode (mB m) pc = .ok (.ifCond .gt off, 3)) (ht : okt pc off = true ∧ tgt pc off = t) (k1 : 0 < x → Wp d m (t) l st h Q) (k2 : ¬ 0 < x → Wp d m (pc + 3) l st h Q) : Wp d m pc l (.int x :: st) h Q := V.if1 hd ht (fun hc => k1 (of_decide_eq_true hc)) (fun hc => k2 (of_decide_eq_false hc))
theorem V.if_le {off : Int} {t : Nat} {x : Int32} (hd : decode (mB m) pc = .ok (.ifCond .le off, 3)) (ht : okt pc off = true ∧ tgt pc off = t) (k1 : 0 < x → Wp d m (pc + 3) l st h Q) (k2 : ¬ 0 < x → Wp d m (t) l st h Q) : Wp d m pc l (.int x :: st) h Q := V.if1 hd ht (fun hc => k2 (Int32.not_lt.mpr (of_decide_eq_true hc))) (fun hc => k1 (Int32.not_le.mp (of_decide_eq_false hc)))
theorem V.ic_eq {off : Int} {t : Nat} {x y : Int32} (hd : decode (mB m) pc = .ok (.if_icmp .eq off, 3)) (ht : okt pc off = true ∧ tgt pc off = t) (k1 : x = y → Wp d m (t) l st h Q) (k2 : ¬ x = y → Wp d m (pc + 3) l st h Q) : Wp d m pc l (.int y :: .int x :: st) h Q := V.if2 hd ht (fun hc => k1 (of_decide_eq_true hc)) (fun hc => k2 (of_decide_eq_false hc))
theorem V.ic_ne {off : Int} {t : Nat} {x y : Int32} (hd : decode (mB m) pc = .ok (.if_icmp .ne off, 3)) (ht : okt pc off = true ∧ tgt pc off = t) (k1 : x = y → Wp d m (pc + 3) l st h Q) (k2 : ¬ x = y → Wp d m (t) l st h Q) : Wp d m pc l (.int y :: .int x :: st) h Q := V.if2 hd ht (fun hc => k2 (of_decide_eq_true hc)) (fun hc => k1 (Decidable.of_not_not (of_decide_eq_false hc)))
theorem V.ic_lt {off : Int} {t : Nat} {x y : Int32} (hd : decode (mB m) pc = .ok (.if_icmp .lt off, 3)) (ht : okt pc off = true ∧ tgt pc off = t) (k1 : x < y → Wp d m (t) l st h Q) (k2 : ¬ x < y → Wp d m (pc + 3) l st h Q) : Wp d m pc l (.int y :: .int x :: st) h Q := V.if2 hd ht (fun hc => k1 (of_decide_eq_true hc)) (fun hc => k2 (of_decide_eq_false hc))
theorem V.ic_ge {off : Int} {t : Nat} {x y : Int32} (hd : decode (mB m) pc = .ok (.if_icmp .ge off, 3)) (ht : okt pc off = true ∧ tgt pc off = t) (k1 : x < y → Wp d m (pc + 3) l st h Q) (k2 : ¬ x < y → Wp d m (t) l st h Q) : Wp d m pc l (.int y :: .int x :: st) h Q := V.if2 hd ht (fun hc => k2 (Int32.not_lt.mpr (of_decide_eq_true hc))) (fun hc => k1 (Int32.not_le.mp (of_decide_eq_false hc)))
theorem V.ic_gt {off : Int} {t : Nat} {x y : Int32} (hd : decode (mB m) pc = .ok (.if_icmp .gt off, 3)) (ht : okt pc off = true ∧ tgt pc off = t) (k1 : y < x → Wp d m (t) l st h Q) (k2 : ¬ y < x → Wp d m (pc + 3) l st h Q) : Wp d m pc l (.int y :: .int x :: st) h Q := V.if2 hd ht (fun hc => k1 (of_decide_eq_true hc)) (fun hc => k2 (of_decide_eq_false hc))
theorem V.ic_le {off : Int} {t : Nat} {x y : Int32} (hd : decode (mB m) pc = .ok (.if_icmp .le off, 3)) (ht : okt pc off = true ∧ tgt pc off = t) (k1 : y < x → Wp d m (pc + 3) l st h Q) (k2 : ¬ y < x → Wp d m (t) l st h Q) : Wp d m pc l (.int y :: .int x :: st) h Q := V.if2 hd ht (fun hc => k2 (Int32.not_lt.mpr (of_decide_eq_true hc))) (fun hc => k1 (Int32.not_le.mp (of_decide_eq_false hc)))
theorem V.ifnull {off : Int} {t : Nat} {x : Nat} (hd : decode (mB m) pc = .ok (.ifnull off, 3)) (ht : okt pc off = true ∧ tgt pc off = t) (k1 : x = 0 → Wp d m (t) l st h Q) (k2 : ¬ x = 0 → Wp d m (pc + 3) l st h Q) : Wp d m pc l (.ref x :: st) h Q := by
  obtain ⟨h1, rfl⟩ := ht
  by_cases hc : x = 0
  · exact Wp.step hd (by show (match (if okt pc off then some (if x = 0 then tgt pc off else pc + 3, l, st) else none : Option Nx) with | some (a, b, c) => _ | none => _) = _; rw [if_pos h1, if_pos hc]) (k1 hc)
  · exact Wp.step hd (by show (match (if okt pc off then some (if x = 0 then tgt pc off else pc + 3, l, st) else none : Option Nx) with | some (a, b, c) => _ | none => _) = _; rw [if_pos h1, if_neg hc]) (k2 hc)
theorem V.ifnonnull {off : Int} {t : Nat} {x : Nat} (hd : decode (mB m) pc = .ok (.ifnonnull off, 3)) (ht : okt pc off = true ∧ tgt pc off = t) (k1 : x = 0 → Wp d m (pc + 3) l st h Q) (k2 : ¬ x = 0 → Wp d m (t) l st h Q) : Wp d m pc l (.ref x :: st) h Q := by
  obtain ⟨h1, rfl⟩ := ht
  by_cases hc : x = 0
  · exact Wp.step hd (by show (match (if okt pc off then some (if x = 0 then pc + 3 else tgt pc off, l, st) else none : Option Nx) with | some (a, b, c) => _ | none => _) = _; rw [if_pos h1, if_pos hc]) (k1 hc)
  · exact Wp.step hd (by show (match (if okt pc off then some (if x = 0 then pc + 3 else tgt pc off, l, st) else none : Option Nx) with | some (a, b, c) => _ | none => _) = _; rw [if_pos h1, if_neg hc]) (k2 hc)
/-- a switch, an arm after the other -/
def swW (x : Int) (dflt : Int) (ps : List (Int × Int)) (K : Int → Prop) : Prop := match ps with | [] => K dflt | q :: r => if x = q.1 then K q.2 else swW x dflt r K
theorem swW_swi {K : Int → Prop} : ∀ {x dflt : Int} {ps : List (Int × Int)}, swW x dflt ps K → K (swi x dflt ps)
  | _, _, [], hk => hk
  | x, dflt, q :: r, hk => by
    unfold swW at hk
    unfold swi
    by_cases e : x = q.1
    · rw [if_pos e] at hk ⊢; exact hk
    · rw [if_neg e] at hk ⊢; exact swW_swi hk
theorem V.lookup {dflt : Int} {ps : Array (Int × Int)} {n : Nat} {x : Int32} (hd : decode (mB m) pc = .ok (.lookupswitch dflt ps, n)) (ho : (ps.toList.zip (ps.toList.drop 1)).all (fun (a, nx) => a.1 < nx.1) = true ∧ okt pc dflt = true ∧ (ps.toList.all fun p => okt pc p.2) = true)
    (k : swW x.toInt dflt ps.toList (fun off => Wp d m (tgt pc off) l st h Q)) : Wp d m pc l (.int x :: st) h Q :=
  Wp.step hd (by show (match (if _ then some (tgt pc (swi x.toInt dflt ps.toList), l, st) else none : Option Nx) with | some (a, b, c) => _ | none => _) = _; rw [if_pos ho]) (swW_swi k)
/-- the arms of a table -/
def tbA (lo : Int) : List Int → List (Int × Int)
  | [] => []
  | o :: r => (lo, o) :: tbA (lo + 1) r
theorem tbA_swi : ∀ (os : List Int) (x lo dflt : Int), swi x dflt (tbA lo os) = if x < lo ∨ lo + os.length ≤ x then dflt else os.getD (x - lo).toNat dflt
  | [], x, lo, dflt => by
    show dflt = _
    split
    · rfl
    · simp
  | o :: r, x, lo, dflt => by
    unfold tbA swi
    by_cases e : x = lo
    · subst e
      rw [if_pos rfl, if_neg (by simp only [List.length_cons]; omega)]
      simp
    · rw [if_neg e, tbA_swi r]
      simp only [List.length_cons]
      by_cases q : x < lo + 1 ∨ lo + 1 + (r.length : Int) ≤ x
      · rw [if_pos q, if_pos (by omega)]
      · rw [if_neg q, if_neg (by omega)]
        rw [show (x - lo).toNat = (x - (lo + 1)).toNat + 1 by omega]
        simp
theorem V.table {dflt lo hi : Int} {os : Array Int} {n : Nat} {x : Int32} (hd : decode (mB m) pc = .ok (.tableswitch dflt lo hi os, n)) (ho : okt pc dflt = true ∧ (os.toList.all fun o => okt pc o) = true ∧ hi - lo + 1 = os.size)
    (k : swW x.toInt dflt (tbA lo os.toList) (fun off => Wp d m (tgt pc off) l st h Q)) : Wp d m pc l (.int x :: st) h Q := by
  refine Wp.step hd (pc' := tgt pc (swi x.toInt dflt (tbA lo os.toList))) ?_ (swW_swi k)
  show (match (if _ then some (if x.toInt < lo ∨ hi < x.toInt then tgt pc dflt else tgt pc (os.getD (x.toInt - lo).toNat dflt), l, st) else none : Option Nx) with | some (a, b, c) => _ | none => _) = _
  rw [if_pos ho, tbA_swi]
  obtain ⟨-, -, hz⟩ := ho
  have hz' : (os.toList.length : Int) = hi - lo + 1 := by rw [hz]; simp
  by_cases q : x.toInt < lo ∨ hi < x.toInt
  · rw [if_pos q, if_pos (by omega)]
  · rw [if_neg q, if_neg (by omega)]
    simp [Array.getD_eq_getD_getElem?, List.getD_eq_getElem?_getD]
theorem V.get0 {k a j : Nat} {cs : List Nat} {b : Bool} {s : String} (hd : decode (mB m) pc = .ok (.getfield k, 3)) (hf : fldOf (mC m) k = some (cs, j, 0, b, s)) (hc : (hS h a).1 ∈ cs) (k1 : Wp d m (pc + 3) l (.int (hI h a j) :: st) h Q) : Wp d m pc l (.ref a :: st) h Q := Wp.step hd (by show gF m k pc l (.ref a :: st) h = _; unfold gF; rw [hf]; dsimp only; rw [if_pos (by simpa using hc)]; rfl) k1
theorem V.get1 {k a j : Nat} {cs : List Nat} {b : Bool} {s : String} (hd : decode (mB m) pc = .ok (.getfield k, 3)) (hf : fldOf (mC m) k = some (cs, j, 1, b, s)) (hc : (hS h a).1 ∈ cs) (k1 : Wp d m (pc + 3) l (.long (hL h a j) :: st) h Q) : Wp d m pc l (.ref a :: st) h Q := Wp.step hd (by show gF m k pc l (.ref a :: st) h = _; unfold gF; rw [hf]; dsimp only; rw [if_pos (by simpa using hc)]; rfl) k1
theorem V.get2 {k a j : Nat} {cs : List Nat} {b : Bool} {s : String} (hd : decode (mB m) pc = .ok (.getfield k, 3)) (hf : fldOf (mC m) k = some (cs, j, 2, b, s)) (hc : (hS h a).1 ∈ cs) (k1 : Wp d m (pc + 3) l (.ref (hR h a j) :: st) h Q) : Wp d m pc l (.ref a :: st) h Q := Wp.step hd (by show gF m k pc l (.ref a :: st) h = _; unfold gF; rw [hf]; dsimp only; rw [if_pos (by simpa using hc)]; rfl) k1
theorem V.get3 {k a j : Nat} {cs : List Nat} {b : Bool} {s : String} (hd : decode (mB m) pc = .ok (.getfield k, 3)) (hf : fldOf (mC m) k = some (cs, j, 3, b, s)) (hc : (hS h a).1 ∈ cs) (k1 : Wp d m (pc + 3) l (.int (hI h a j) :: st) h Q) : Wp d m pc l (.ref a :: st) h Q := Wp.step hd (by show gF m k pc l (.ref a :: st) h = _; unfold gF; rw [hf]; dsimp only; rw [if_pos (by simpa using hc)]; rfl) k1
theorem V.put0 {k a j : Nat} {cs : List Nat} {b : Bool} {s : String} {v : Int32} (hd : decode (mB m) pc = .ok (.putfield k, 3)) (hf : fldOf (mC m) k = some (cs, j, 0, b, s)) (hb : b = false ∨ mI m = true) (hc : (hS h a).1 ∈ cs) (k1 : Wp d m (pc + 3) l st (sI h a j v) Q) : Wp d m pc l (.int v :: .ref a :: st) h Q := Wp.step hd (by show pF m k pc l (.int v :: .ref a :: st) h = _; unfold pF; rw [hf]; dsimp only; rw [if_pos ⟨by simpa using hc, hb⟩]; rfl) k1
theorem V.put1 {k a j : Nat} {cs : List Nat} {b : Bool} {s : String} {v : Int64} (hd : decode (mB m) pc = .ok (.putfield k, 3)) (hf : fldOf (mC m) k = some (cs, j, 1, b, s)) (hb : b = false ∨ mI m = true) (hc : (hS h a).1 ∈ cs) (k1 : Wp d m (pc + 3) l st (sL h a j v) Q) : Wp d m pc l (.long v :: .ref a :: st) h Q := Wp.step hd (by show pF m k pc l (.long v :: .ref a :: st) h = _; unfold pF; rw [hf]; dsimp only; rw [if_pos ⟨by simpa using hc, hb⟩]; rfl) k1
theorem V.put2 {k a j : Nat} {cs : List Nat} {b : Bool} {s : String} {v : Nat} (hd : decode (mB m) pc = .ok (.putfield k, 3)) (hf : fldOf (mC m) k = some (cs, j, 2, b, s)) (hb : b = false ∨ mI m = true) (hc : (hS h a).1 ∈ cs) (k1 : Wp d m (pc + 3) l st (sR h a j v) Q) : Wp d m pc l (.ref v :: .ref a :: st) h Q := Wp.step hd (by show pF m k pc l (.ref v :: .ref a :: st) h = _; unfold pF; rw [hf]; dsimp only; rw [if_pos ⟨by simpa using hc, hb⟩]; rfl) k1
theorem V.put3 {k a j : Nat} {cs : List Nat} {b : Bool} {s : String} {v : Int32} (hd : decode (mB m) pc = .ok (.putfield k, 3)) (hf : fldOf (mC m) k = some (cs, j, 3, b, s)) (hb : b = false ∨ mI m = true) (hc : (hS h a).1 ∈ cs) (hv : v = 0 ∨ v = 1) (k1 : Wp d m (pc + 3) l st (sI h a j v) Q) : Wp d m pc l (.int v :: .ref a :: st) h Q := Wp.step hd (by show pF m k pc l (.int v :: .ref a :: st) h = _; unfold pF; rw [hf]; dsimp only; rw [if_pos ⟨by simpa using hc, hb⟩, show pV h a j 3 (.int v) = some (sI h a j v) from (by show (if v = 0 ∨ v = 1 then some (sI h a j v) else none) = _; rw [if_pos hv])]) k1
theorem V.iaload {a : Nat} {i : Int32} (hd : decode (mB m) pc = .ok (.iaload, 1)) (hc : (hS h a).1 = 20) (hi : ainr i (hS h a).2 = true) (k1 : Wp d m (pc + 1) l (.int (hI h a i.toNatClampNeg) :: st) h Q) : Wp d m pc l (.int i :: .ref a :: st) h Q := Wp.step hd (by show aLd 20 (fun h a j => .int (hI h a j)) pc l (.int i :: .ref a :: st) h = _; unfold aLd; dsimp only; rw [if_pos ⟨hc, hi⟩]) k1
theorem V.baload {a : Nat} {i : Int32} (hd : decode (mB m) pc = .ok (.baload, 1)) (hc : (hS h a).1 = 22) (hi : ainr i (hS h a).2 = true) (k1 : Wp d m (pc + 1) l (.int (hI h a i.toNatClampNeg) :: st) h Q) : Wp d m pc l (.int i :: .ref a :: st) h Q := Wp.step hd (by show aLd 22 (fun h a j => .int (hI h a j)) pc l (.int i :: .ref a :: st) h = _; unfold aLd; dsimp only; rw [if_pos ⟨hc, hi⟩]) k1
theorem V.laload {a : Nat} {i : Int32} (hd : decode (mB m) pc = .ok (.laload, 1)) (hc : (hS h a).1 = 21) (hi : ainr i (hS h a).2 = true) (k1 : Wp d m (pc + 1) l (.long (hL h a i.toNatClampNeg) :: st) h Q) : Wp d m pc l (.int i :: .ref a :: st) h Q := Wp.step hd (by show aLd 21 (fun h a j => .long (hL h a j)) pc l (.int i :: .ref a :: st) h = _; unfold aLd; dsimp only; rw [if_pos ⟨hc, hi⟩]) k1
theorem V.daload {a : Nat} {i : Int32} (hd : decode (mB m) pc = .ok (.daload, 1)) (hc : (hS h a).1 = 23) (hi : ainr i (hS h a).2 = true) (k1 : Wp d m (pc + 1) l (.double (hD h a i.toNatClampNeg) :: st) h Q) : Wp d m pc l (.int i :: .ref a :: st) h Q := Wp.step hd (by show aLd 23 (fun h a j => .double (hD h a j)) pc l (.int i :: .ref a :: st) h = _; unfold aLd; dsimp only; rw [if_pos ⟨hc, hi⟩]) k1
theorem V.aaload {a : Nat} {i : Int32} (hd : decode (mB m) pc = .ok (.aaload, 1)) (hc : (hS h a).1 = 24) (hi : ainr i (hS h a).2 = true) (k1 : Wp d m (pc + 1) l (.ref (hR h a i.toNatClampNeg) :: st) h Q) : Wp d m pc l (.int i :: .ref a :: st) h Q := Wp.step hd (by show aLd 24 (fun h a j => .ref (hR h a j)) pc l (.int i :: .ref a :: st) h = _; unfold aLd; dsimp only; rw [if_pos ⟨hc, hi⟩]) k1
theorem V.iastore {a : Nat} {i : Int32} {v : Int32} (hd : decode (mB m) pc = .ok (.iastore, 1)) (hc : (hS h a).1 = 20) (h1 : ¬ a = 1) (hi : ainr i (hS h a).2 = true) (k1 : Wp d m (pc + 1) l st (sI h a i.toNatClampNeg v) Q) : Wp d m pc l (.int v :: .int i :: .ref a :: st) h Q := Wp.step hd (by show aSt 20 stI pc l (.int v :: .int i :: .ref a :: st) h = _; unfold aSt; dsimp only; rw [if_pos ⟨hc, h1, hi⟩]; rfl) k1
theorem V.bastore {a : Nat} {i : Int32} {v : Int32} (hd : decode (mB m) pc = .ok (.bastore, 1)) (hc : (hS h a).1 = 22) (h1 : ¬ a = 1) (hi : ainr i (hS h a).2 = true) (k1 : Wp d m (pc + 1) l st (sI h a i.toNatClampNeg v.toInt8.toInt32) Q) : Wp d m pc l (.int v :: .int i :: .ref a :: st) h Q := Wp.step hd (by show aSt 22 stB pc l (.int v :: .int i :: .ref a :: st) h = _; unfold aSt; dsimp only; rw [if_pos ⟨hc, h1, hi⟩]; rfl) k1
theorem V.lastore {a : Nat} {i : Int32} {v : Int64} (hd : decode (mB m) pc = .ok (.lastore, 1)) (hc : (hS h a).1 = 21) (h1 : ¬ a = 1) (hi : ainr i (hS h a).2 = true) (k1 : Wp d m (pc + 1) l st (sL h a i.toNatClampNeg v) Q) : Wp d m pc l (.long v :: .int i :: .ref a :: st) h Q := Wp.step hd (by show aSt 21 stL pc l (.long v :: .int i :: .ref a :: st) h = _; unfold aSt; dsimp only; rw [if_pos ⟨hc, h1, hi⟩]; rfl) k1
theorem V.dastore {a : Nat} {i : Int32} {v : UInt64} (hd : decode (mB m) pc = .ok (.dastore, 1)) (hc : (hS h a).1 = 23) (h1 : ¬ a = 1) (hi : ainr i (hS h a).2 = true) (k1 : Wp d m (pc + 1) l st (sD h a i.toNatClampNeg v) Q) : Wp d m pc l (.double v :: .int i :: .ref a :: st) h Q := Wp.step hd (by show aSt 23 stD pc l (.double v :: .int i :: .ref a :: st) h = _; unfold aSt; dsimp only; rw [if_pos ⟨hc, h1, hi⟩]; rfl) k1
theorem V.aastore {a : Nat} {i : Int32} {v : Nat} (hd : decode (mB m) pc = .ok (.aastore, 1)) (hc : (hS h a).1 = 24) (h1 : ¬ a = 1) (hi : ainr i (hS h a).2 = true) (hv : (hS h v).1 = 2) (k1 : Wp d m (pc + 1) l st (sR h a i.toNatClampNeg v) Q) : Wp d m pc l (.ref v :: .int i :: .ref a :: st) h Q := Wp.step hd (by show aSt 24 stR pc l (.ref v :: .int i :: .ref a :: st) h = _; unfold aSt; dsimp only; rw [if_pos ⟨hc, h1, hi⟩]; unfold stR; dsimp only; rw [if_pos hv]) k1
theorem V.alen {a : Nat} (hd : decode (mB m) pc = .ok (.arraylength, 1)) (hc : isArr (hS h a).1 = true) (k1 : Wp d m (pc + 1) l (.int (Int32.ofNat (hS h a).2) :: st) h Q) : Wp d m pc l (.ref a :: st) h Q := Wp.step hd (by show (if isArr (hS h a).1 = true then _ else none) = _; rw [if_pos hc]) k1
theorem V.new {k c sz : Nat} (hd : decode (mB m) pc = .ok (.new k, 3)) (hcl : clsOf (mC m) k = some (c, sz)) (h9 : ¬ 9 ≤ c) (hr : room h sz = true) (k1 : Wp d m (pc + 3) l (.ref (hN h) :: st) (hNew h c 0 sz) Q) : Wp d m pc l st h Q := Wp.step hd (by show (match clsOf (mC m) k with | some (c, sz) => _ | none => none) = _; rw [hcl]; dsimp only; rw [if_neg h9, if_pos hr]) k1
theorem V.thr {k c sz : Nat} (hd : decode (mB m) pc = .ok (.new k, 3)) (hcl : clsOf (mC m) k = some (c, sz)) (h9 : 9 ≤ c) (ht : thr m pc c = true) (hst : st.length ≤ 16) (hr : room h 6 = true) (k1 : Q (.inr (hN h)) (hNew h c 0 6)) : Wp d m pc l st h Q := Wp.fin hd (by show (match clsOf (mC m) k with | some (c, sz) => _ | none => none) = _; rw [hcl]; dsimp only; rw [if_pos h9, if_pos ⟨ht, hr, hst⟩]) k1
theorem V.newa {t : ClassFile.ArrayType} {k : Nat} {n : Int32} (hd : decode (mB m) pc = .ok (.newarray t, 2)) (ht : atk t = some k) (hn : ¬ n < 0 ∧ n.toNatClampNeg ≤ 100000 ∧ room h n.toNatClampNeg = true) (k1 : Wp d m (pc + 2) l (.ref (hN h) :: st) (hNew h k n.toNatClampNeg n.toNatClampNeg) Q) : Wp d m pc l (.int n :: st) h Q := Wp.step hd (by show (match atk t with | some k => _ | none => none) = _; rw [ht]; show nwA k (pc + 2) l (.int n :: st) h = _; unfold nwA; dsimp only; rw [if_pos hn]) k1
theorem V.anewa {k : Nat} {n : Int32} (hd : decode (mB m) pc = .ok (.anewarray k, 3)) (hcl : clsOf (mC m) k = some (2, 16)) (hn : ¬ n < 0 ∧ n.toNatClampNeg ≤ 100000 ∧ room h n.toNatClampNeg = true) (k1 : Wp d m (pc + 3) l (.ref (hN h) :: st) (hNew h 24 n.toNatClampNeg n.toNatClampNeg) Q) : Wp d m pc l (.int n :: st) h Q := Wp.step hd (by show (if 3 = 3 ∧ clsOf (mC m) k = some (2, 16) then nwA 24 (pc + 3) l (.int n :: st) h else none) = _; rw [if_pos ⟨rfl, hcl⟩]; unfold nwA; dsimp only; rw [if_pos hn]) k1
theorem V.iret {x : Int32} (hd : decode (mB m) pc = .ok (.ireturn, 1)) (hr : mR m = some .int) (k : Q (.inl (some (.int x))) h) : Wp d m pc l [.int x] h Q := Wp.fin hd (by show retA m (.int x) h = _; unfold retA; rw [hr]) k
theorem V.zret {x y : Int32} (hd : decode (mB m) pc = .ok (.ireturn, 1)) (hr : mR m = some .boolean) (hy : x &&& 1 = y) (k : Q (.inl (some (.int y))) h) : Wp d m pc l [.int x] h Q := Wp.fin hd (by subst hy; show retA m (.int x) h = _; unfold retA; rw [hr]; rfl) k
theorem V.lret {x : Int64} (hd : decode (mB m) pc = .ok (.lreturn, 1)) (hr : mR m = some .long) (k : Q (.inl (some (.long x))) h) : Wp d m pc l [.long x] h Q := Wp.fin hd (by show retA m (.long x) h = _; unfold retA; rw [hr]) k
theorem V.dret {x : UInt64} (hd : decode (mB m) pc = .ok (.dreturn, 1)) (hr : mR m = some .double) (k : Q (.inl (some (.double x))) h) : Wp d m pc l [.double x] h Q := Wp.fin hd (by show retA m (.double x) h = _; unfold retA; rw [hr]) k
theorem V.aret {x : Nat} {s : String} (hd : decode (mB m) pc = .ok (.areturn, 1)) (hr : mR m = some (.object s)) (k : Q (.inl (some (.ref x))) h) : Wp d m pc l [.ref x] h Q := Wp.fin hd (by show retA m (.ref x) h = _; unfold retA; rw [hr]) k
theorem V.vret (hd : decode (mB m) pc = .ok (.return_, 1)) (hr : mR m = none) (k : Q (.inl none) h) : Wp d m pc l [] h Q := Wp.fin hd (by show (if 1 = 1 ∧ mR m = none then _ else none) = _; rw [if_pos ⟨rfl, hr⟩]) k
theorem V.maxI {k n : Nat} {ts : List (Nat × Mr)} {x y : Int32} (hd : decode (mB m) pc = .ok (.invokestatic k, 3)) (hk : calOf (mC m) k = some (6, n, ts)) (hr : st.length ≤ 16) (k1 : Wp d m (pc + 3) l (.int (if x < y then y else x) :: st) h Q) : Wp d m pc l (.int y :: .int x :: st) h Q := Wp.step hd (by show cS m k pc l (.int y :: .int x :: st) h = _; unfold cS; rw [hk]; show mth 6 pc l (.int y :: .int x :: st) h = _; show (if st.length ≤ 16 then _ else none) = _; rw [if_pos hr]) k1
theorem V.minI {k n : Nat} {ts : List (Nat × Mr)} {x y : Int32} (hd : decode (mB m) pc = .ok (.invokestatic k, 3)) (hk : calOf (mC m) k = some (7, n, ts)) (hr : st.length ≤ 16) (k1 : Wp d m (pc + 3) l (.int (if y < x then y else x) :: st) h Q) : Wp d m pc l (.int y :: .int x :: st) h Q := Wp.step hd (by show cS m k pc l (.int y :: .int x :: st) h = _; unfold cS; rw [hk]; show mth 7 pc l (.int y :: .int x :: st) h = _; show (if st.length ≤ 16 then _ else none) = _; rw [if_pos hr]) k1
theorem V.maxL {k n : Nat} {ts : List (Nat × Mr)} {x y : Int64} (hd : decode (mB m) pc = .ok (.invokestatic k, 3)) (hk : calOf (mC m) k = some (8, n, ts)) (hr : st.length ≤ 16) (k1 : Wp d m (pc + 3) l (.long (if y < x then x else y) :: st) h Q) : Wp d m pc l (.long y :: .long x :: st) h Q := Wp.step hd (by show cS m k pc l (.long y :: .long x :: st) h = _; unfold cS; rw [hk]; show mth 8 pc l (.long y :: .long x :: st) h = _; show (if st.length ≤ 16 then _ else none) = _; rw [if_pos hr]) k1
theorem V.minL {k n : Nat} {ts : List (Nat × Mr)} {x y : Int64} (hd : decode (mB m) pc = .ok (.invokestatic k, 3)) (hk : calOf (mC m) k = some (9, n, ts)) (hr : st.length ≤ 16) (k1 : Wp d m (pc + 3) l (.long (if y < x then y else x) :: st) h Q) : Wp d m pc l (.long y :: .long x :: st) h Q := Wp.step hd (by show cS m k pc l (.long y :: .long x :: st) h = _; unfold cS; rw [hk]; show mth 9 pc l (.long y :: .long x :: st) h = _; show (if st.length ≤ 16 then _ else none) = _; rw [if_pos hr]) k1
theorem V.objInit {k n : Nat} {ts : List (Nat × Mr)} {a : Nat} (hd : decode (mB m) pc = .ok (.invokespecial k, 3)) (hk : calOf (mC m) k = some (3, n, ts)) (ha : 2 ≤ a) (hr : st.length ≤ 16) (k1 : Wp d m (pc + 3) l st h Q) : Wp d m pc l (.ref a :: st) h Q := Wp.step hd (by show cI_ m k pc l (.ref a :: st) h = _; unfold cI_; rw [hk]; show oin pc l (.ref a :: st) h = _; unfold oin; dsimp only; rw [if_pos ⟨ha, hr⟩]) k1
theorem V.cpyI {k n0 : Nat} {ts : List (Nat × Mr)} {n j i : Int32} {a b : Nat} (hd : decode (mB m) pc = .ok (.invokestatic k, 3)) (hk : calOf (mC m) k = some (4, n0, ts)) (hr : st.length ≤ 16) (hn : ¬ n < 0 ∧ ¬ j < 0 ∧ ¬ i < 0) (h1 : ¬ a = 1 ∧ ¬ b = 1) (ha : (hS h a).1 = 22) (hb : (hS h b).1 = 22) (hi : i.toNatClampNeg + n.toNatClampNeg ≤ (hS h a).2 ∧ j.toNatClampNeg + n.toNatClampNeg ≤ (hS h b).2) (k1 : Wp d m (pc + 3) l st (cI h a i.toNatClampNeg b j.toNatClampNeg n.toNatClampNeg) Q) : Wp d m pc l (.int n :: .int j :: .ref b :: .int i :: .ref a :: st) h Q := Wp.step hd (by
  show cS m k pc l (.int n :: .int j :: .ref b :: .int i :: .ref a :: st) h = _
  unfold cS; rw [hk]
  show cpA pc l (.int n :: .int j :: .ref b :: .int i :: .ref a :: st) h = _
  unfold cpA; dsimp only
  rw [if_pos ⟨hn.1, hn.2.1, hn.2.2, h1.1, h1.2, by rw [ha, hb], by rw [hb]; decide, hi.1, hi.2, hr⟩, if_pos hb]) k1
theorem V.cpyL {k n0 : Nat} {ts : List (Nat × Mr)} {n j i : Int32} {a b : Nat} (hd : decode (mB m) pc = .ok (.invokestatic k, 3)) (hk : calOf (mC m) k = some (4, n0, ts)) (hr : st.length ≤ 16) (hn : ¬ n < 0 ∧ ¬ j < 0 ∧ ¬ i < 0) (h1 : ¬ a = 1 ∧ ¬ b = 1) (ha : (hS h a).1 = 21) (hb : (hS h b).1 = 21) (hi : i.toNatClampNeg + n.toNatClampNeg ≤ (hS h a).2 ∧ j.toNatClampNeg + n.toNatClampNeg ≤ (hS h b).2) (k1 : Wp d m (pc + 3) l st (cL h a i.toNatClampNeg b j.toNatClampNeg n.toNatClampNeg) Q) : Wp d m pc l (.int n :: .int j :: .ref b :: .int i :: .ref a :: st) h Q := Wp.step hd (by
  show cS m k pc l (.int n :: .int j :: .ref b :: .int i :: .ref a :: st) h = _
  unfold cS; rw [hk]
  show cpA pc l (.int n :: .int j :: .ref b :: .int i :: .ref a :: st) h = _
  unfold cpA; dsimp only
  rw [if_pos ⟨hn.1, hn.2.1, hn.2.2, h1.1, h1.2, by rw [ha, hb], by rw [hb]; decide, hi.1, hi.2, hr⟩, if_neg (by rw [hb]; decide)]) k1
theorem cS_call {k n : Nat} {x : Nat} (hk : calOf (mC m) k = some (0, n, [(x, m')])) (ha : args? n st = some (as, rs)) (hg : rs.length ≤ 16 ∧ (as.map Value.category).sum ≤ mL m') : stA m (.invokestatic k) 3 pc l st h = some (.inr (.inr (m', as, rs, false))) := by
  show cS m k pc l st h = _
  unfold cS
  rw [hk]
  dsimp only
  rw [ha]
  dsimp only
  rw [if_pos hg]
  rfl
theorem cI_call {k n a : Nat} {t : List Value} {ts : List (Nat × Mr)} (hk : calOf (mC m) k = some (1, n, ts)) (ha : args? n st = some (.ref a :: t, rs)) (hc : ts.lookup (hS h a).1 = some m') (hg : rs.length ≤ 16 ∧ ((Value.ref a :: t).map Value.category).sum ≤ mL m') : stA m (.invokespecial k) 3 pc l st h = some (.inr (.inr (m', .ref a :: t, rs, false))) := by
  show cI_ m k pc l st h = _
  unfold cI_
  rw [hk]
  dsimp only
  rw [ha]
  dsimp only
  rw [show rcv h ts (.ref a :: t) = some m' from hc]
  dsimp only
  rw [if_pos hg]
  rfl
theorem cV_call {kd k n a : Nat} {t : List Value} {ts : List (Nat × Mr)} (hk : calOf (mC m) k = some (kd, n, ts)) (hkd : kd = 2 ∨ kd = 5) (ha : args? n st = some (.ref a :: t, rs)) (hc : ts.lookup (hS h a).1 = some m') (hg : rs.length ≤ 16 ∧ ((Value.ref a :: t).map Value.category).sum ≤ mL m') : stA m (.invokevirtual k) 3 pc l st h = some (.inr (.inr (m', .ref a :: t, rs, kd == 2))) := by
  show cV m k st h = _
  unfold cV
  rw [hk]
  dsimp only
  rw [if_pos hkd, ha]
  dsimp only
  rw [show rcv h ts (.ref a :: t) = some m' from hc]
  dsimp only
  rw [if_pos hg]
theorem lk1 {x c : Nat} {m1 : Mr} (hc : c = x) : ([(x, m1)] : List (Nat × Mr)).lookup c = some m1 := by
  rw [hc, List.lookup_cons]; simp
theorem lk2 {x y c : Nat} {m1 : Mr} (hc : c = x ∨ c = y) : ([(x, m1), (y, m1)] : List (Nat × Mr)).lookup c = some m1 := by
  rw [List.lookup_cons, List.lookup_cons]
  by_cases e : c = x
  · simp [e]
  · rcases hc with hc | hc
    · exact absurd hc e
    · have : (c == x) = false := by simpa using e
      rw [this]; simp [hc]
theorem lk2a {x y c : Nat} {m1 m2 : Mr} (hc : c = x) : ([(x, m1), (y, m2)] : List (Nat × Mr)).lookup c = some m1 := by
  rw [hc, List.lookup_cons]; simp
theorem lk2b {x y c : Nat} {m1 m2 : Mr} (hx : ¬ x = y) (hc : c = y) : ([(x, m1), (y, m2)] : List (Nat × Mr)).lookup c = some m2 := by
  rw [List.lookup_cons, List.lookup_cons]
  have : (c == x) = false := by simpa [hc] using fun e => hx e.symm
  rw [this]; simp [hc]
theorem V.callI {i : Instr} {n : Nat} {tf : Bool} {K : Int32 → Hp → Prop} (hd : decode (mB m) pc = .ok (i, n)) (hs : stA m i n pc l st h = some (.inr (.inr (m', as, rs, tf)))) (k : Ca d m' as h (QI K)) (k1 : ∀ v h1, K v h1 → Wp (d + 1) m (pc + 3) l (.int v :: rs) h1 Q) : Wp (d + 1) m pc l st h Q :=
  Wp.call hd hs k (fun v h1 hq => by obtain ⟨x, e, hq⟩ := hq; cases e; exact k1 x h1 hq) (fun x h1 hq => by obtain ⟨x, e, hq⟩ := hq; cases e)
theorem V.callL {i : Instr} {n : Nat} {tf : Bool} {K : Int64 → Hp → Prop} (hd : decode (mB m) pc = .ok (i, n)) (hs : stA m i n pc l st h = some (.inr (.inr (m', as, rs, tf)))) (k : Ca d m' as h (QL K)) (k1 : ∀ v h1, K v h1 → Wp (d + 1) m (pc + 3) l (.long v :: rs) h1 Q) : Wp (d + 1) m pc l st h Q :=
  Wp.call hd hs k (fun v h1 hq => by obtain ⟨x, e, hq⟩ := hq; cases e; exact k1 x h1 hq) (fun x h1 hq => by obtain ⟨x, e, hq⟩ := hq; cases e)
theorem V.callD {i : Instr} {n : Nat} {tf : Bool} {K : UInt64 → Hp → Prop} (hd : decode (mB m) pc = .ok (i, n)) (hs : stA m i n pc l st h = some (.inr (.inr (m', as, rs, tf)))) (k : Ca d m' as h (QD K)) (k1 : ∀ v h1, K v h1 → Wp (d + 1) m (pc + 3) l (.double v :: rs) h1 Q) : Wp (d + 1) m pc l st h Q :=
  Wp.call hd hs k (fun v h1 hq => by obtain ⟨x, e, hq⟩ := hq; cases e; exact k1 x h1 hq) (fun x h1 hq => by obtain ⟨x, e, hq⟩ := hq; cases e)
theorem V.callR {i : Instr} {n : Nat} {tf : Bool} {K : Nat → Hp → Prop} (hd : decode (mB m) pc = .ok (i, n)) (hs : stA m i n pc l st h = some (.inr (.inr (m', as, rs, tf)))) (k : Ca d m' as h (QR K)) (k1 : ∀ v h1, K v h1 → Wp (d + 1) m (pc + 3) l (.ref v :: rs) h1 Q) : Wp (d + 1) m pc l st h Q :=
  Wp.call hd hs k (fun v h1 hq => by obtain ⟨x, e, hq⟩ := hq; cases e; exact k1 x h1 hq) (fun x h1 hq => by obtain ⟨x, e, hq⟩ := hq; cases e)
theorem V.callV {i : Instr} {n : Nat} {tf : Bool} {K : Hp → Prop} (hd : decode (mB m) pc = .ok (i, n)) (hs : stA m i n pc l st h = some (.inr (.inr (m', as, rs, tf)))) (k : Ca d m' as h (QV K)) (k1 : ∀ h1, K h1 → Wp (d + 1) m (pc + 3) l rs h1 Q) : Wp (d + 1) m pc l st h Q :=
  Wp.call hd hs k (fun v h1 hq => by obtain ⟨e, hq⟩ := hq; cases e; exact k1 h1 hq) (fun x h1 hq => by obtain ⟨e, hq⟩ := hq; cases e)
theorem V.callIx {i : Instr} {n : Nat} {K : Int32 → Hp → Prop} {E : Nat → Hp → Prop} (hd : decode (mB m) pc = .ok (i, n)) (hs : stA m i n pc l st h = some (.inr (.inr (m', as, rs, true)))) (k : Ca d m' as h (QIx K E)) (k1 : ∀ v h1, K v h1 → Wp (d + 1) m (pc + 3) l (.int v :: rs) h1 Q) (k2 : ∀ x h1, E x h1 → ((∃ q, hnd m pc (hS h1 x).1 = some q ∧ Wp (d + 1) m q l [.ref x] h1 Q) ∨ (hnd m pc (hS h1 x).1 = none ∧ (mH m).isEmpty = true ∧ Q (.inr x) h1))) : Wp (d + 1) m pc l st h Q :=
  Wp.call hd hs k (fun v h1 hq => by rcases hq with ⟨x, e, hq⟩ | ⟨x, e, hq⟩
                                     · cases e; exact k1 x h1 hq
                                     · cases e) (fun x h1 hq => by rcases hq with ⟨x, e, hq⟩ | ⟨x, e, hq⟩
                                                                   · cases e
                                                                   · cases e; exact ⟨rfl, k2 _ h1 hq⟩)
theorem V.callLx {i : Instr} {n : Nat} {K : Int64 → Hp → Prop} {E : Nat → Hp → Prop} (hd : decode (mB m) pc = .ok (i, n)) (hs : stA m i n pc l st h = some (.inr (.inr (m', as, rs, true)))) (k : Ca d m' as h (QLx K E)) (k1 : ∀ v h1, K v h1 → Wp (d + 1) m (pc + 3) l (.long v :: rs) h1 Q) (k2 : ∀ x h1, E x h1 → ((∃ q, hnd m pc (hS h1 x).1 = some q ∧ Wp (d + 1) m q l [.ref x] h1 Q) ∨ (hnd m pc (hS h1 x).1 = none ∧ (mH m).isEmpty = true ∧ Q (.inr x) h1))) : Wp (d + 1) m pc l st h Q :=
  Wp.call hd hs k (fun v h1 hq => by rcases hq with ⟨x, e, hq⟩ | ⟨x, e, hq⟩
                                     · cases e; exact k1 x h1 hq
                                     · cases e) (fun x h1 hq => by rcases hq with ⟨x, e, hq⟩ | ⟨x, e, hq⟩
                                                                   · cases e
                                                                   · cases e; exact ⟨rfl, k2 _ h1 hq⟩)
theorem V.callDx {i : Instr} {n : Nat} {K : UInt64 → Hp → Prop} {E : Nat → Hp → Prop} (hd : decode (mB m) pc = .ok (i, n)) (hs : stA m i n pc l st h = some (.inr (.inr (m', as, rs, true)))) (k : Ca d m' as h (QDx K E)) (k1 : ∀ v h1, K v h1 → Wp (d + 1) m (pc + 3) l (.double v :: rs) h1 Q) (k2 : ∀ x h1, E x h1 → ((∃ q, hnd m pc (hS h1 x).1 = some q ∧ Wp (d + 1) m q l [.ref x] h1 Q) ∨ (hnd m pc (hS h1 x).1 = none ∧ (mH m).isEmpty = true ∧ Q (.inr x) h1))) : Wp (d + 1) m pc l st h Q :=
  Wp.call hd hs k (fun v h1 hq => by rcases hq with ⟨x, e, hq⟩ | ⟨x, e, hq⟩
                                     · cases e; exact k1 x h1 hq
                                     · cases e) (fun x h1 hq => by rcases hq with ⟨x, e, hq⟩ | ⟨x, e, hq⟩
                                                                   · cases e
                                                                   · cases e; exact ⟨rfl, k2 _ h1 hq⟩)
theorem V.callVx {i : Instr} {n : Nat} {K : Hp → Prop} {E : Nat → Hp → Prop} (hd : decode (mB m) pc = .ok (i, n)) (hs : stA m i n pc l st h = some (.inr (.inr (m', as, rs, true)))) (k : Ca d m' as h (QVx K E)) (k1 : ∀ h1, K h1 → Wp (d + 1) m (pc + 3) l rs h1 Q) (k2 : ∀ x h1, E x h1 → ((∃ q, hnd m pc (hS h1 x).1 = some q ∧ Wp (d + 1) m q l [.ref x] h1 Q) ∨ (hnd m pc (hS h1 x).1 = none ∧ (mH m).isEmpty = true ∧ Q (.inr x) h1))) : Wp (d + 1) m pc l st h Q :=
  Wp.call hd hs k (fun v h1 hq => by rcases hq with ⟨e, hq⟩ | ⟨x, e, hq⟩
                                     · cases e; exact k1 h1 hq
                                     · cases e) (fun x h1 hq => by rcases hq with ⟨e, hq⟩ | ⟨x, e, hq⟩
                                                                   · cases e
                                                                   · cases e; exact ⟨rfl, k2 _ h1 hq⟩)
theorem V.rI {K : Int32 → Hp → Prop} {v : Int32} (k : K v h) : QI K (.inl (some (.int v))) h := ⟨v, rfl, k⟩
theorem V.rL {K : Int64 → Hp → Prop} {v : Int64} (k : K v h) : QL K (.inl (some (.long v))) h := ⟨v, rfl, k⟩
theorem V.rD {K : UInt64 → Hp → Prop} {v : UInt64} (k : K v h) : QD K (.inl (some (.double v))) h := ⟨v, rfl, k⟩
theorem V.rR {K : Nat → Hp → Prop} {v : Nat} (k : K v h) : QR K (.inl (some (.ref v))) h := ⟨v, rfl, k⟩
theorem V.rV {K : Hp → Prop} (k : K h) : QV K (.inl none) h := ⟨rfl, k⟩
theorem V.rIx {K : Int32 → Hp → Prop} {E : Nat → Hp → Prop} {v : Int32} (k : K v h) : QIx K E (.inl (some (.int v))) h := Or.inl ⟨v, rfl, k⟩
theorem V.rLx {K : Int64 → Hp → Prop} {E : Nat → Hp → Prop} {v : Int64} (k : K v h) : QLx K E (.inl (some (.long v))) h := Or.inl ⟨v, rfl, k⟩
theorem V.rDx {K : UInt64 → Hp → Prop} {E : Nat → Hp → Prop} {v : UInt64} (k : K v h) : QDx K E (.inl (some (.double v))) h := Or.inl ⟨v, rfl, k⟩
theorem V.rVx {K : Hp → Prop} {E : Nat → Hp → Prop} (k : K h) : QVx K E (.inl none) h := Or.inl ⟨rfl, k⟩
theorem V.eIx {K : Int32 → Hp → Prop} {E : Nat → Hp → Prop} {v : Nat} (k : E v h) : QIx K E (.inr v) h := Or.inr ⟨v, rfl, k⟩
theorem V.eLx {K : Int64 → Hp → Prop} {E : Nat → Hp → Prop} {v : Nat} (k : E v h) : QLx K E (.inr v) h := Or.inr ⟨v, rfl, k⟩
theorem V.eDx {K : UInt64 → Hp → Prop} {E : Nat → Hp → Prop} {v : Nat} (k : E v h) : QDx K E (.inr v) h := Or.inr ⟨v, rfl, k⟩
theorem V.eVx {K : Hp → Prop} {E : Nat → Hp → Prop} {v : Nat} (k : E v h) : QVx K E (.inr v) h := Or.inr ⟨v, rfl, k⟩
end WPR
