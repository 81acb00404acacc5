/-! a pass over a type, without a heap: U passes a unit, sp the spare bits; how far (bits), what is carried, the values that are known, spot, name -/
abbrev Ps (ω : Type) : Type := Nat × ω × (Nat → Option Int64) × Int32 × Int32
section PUR
variable {ω : Type} (S : Tb) (U : Nat → Nat → ω → Int32 × Nat × ω × Int64) (sp : Nat → ω → Int32 × Nat)
def pU (k : Nat) (s : Ps ω) : Int32 × Ps ω :=
  ((U k s.1 s.2.1).1, (U k s.1 s.2.1).2.1, (U k s.1 s.2.1).2.2.1, (fun q => if q = k ∧ sz (tG S k 0) = true then some (U k s.1 s.2.1).2.2.2 else s.2.2.1 q), iv (s.1 / 8), tG S k 7)
def spP (s : Ps ω) : Int32 × Ps ω := ((sp s.1 s.2.1).1, (sp s.1 s.2.1).2, s.2)
def bnd (o : Int32 × Ps ω) (f : Ps ω → Int32 × Ps ω) : Int32 × Ps ω := if o.1 = 0 then f o.2 else o
def pFl (rec : Nat → Ps ω → Int32 × Ps ω) : List Nat → Ps ω → Int32 × Ps ω
  | [], s => spP sp s
  | k :: r, s => bnd (if tG S k 0 = 112 then (0, s) else spP sp s) fun s1 => bnd (rec k s1) (pFl rec r)
def pCt (rec : Nat → Ps ω → Int32 × Ps ω) (c : Nat) : Nat → Ps ω → Int32 × Ps ω
  | 0, s => (0, s)
  | m + 1, s => bnd (rec c s) (pCt rec c m)
def pSd (rec : Nat → Ps ω → Int32 × Ps ω) (c e : Nat) : Nat → Ps ω → Int32 × Ps ω
  | 0, s => if bfN s.1 < e then (7, s) else if e < bfN s.1 then (2, s) else (0, s)
  | m + 1, s => if bfN s.1 < e then bnd (rec c s) (pSd rec c e m) else if e < bfN s.1 then (2, s) else (0, s)
def pCh (rec : Nat → Ps ω → Int32 × Ps ω) (v : Int64) : List Nat → Ps ω → Int32 × Ps ω
  | [], s => (2, s)
  | k :: r, s => if (tG S k 6).toInt64 = v then rec k s else pCh rec v r s
def hd0 : List Nat → Nat
  | [] => 0
  | k :: _ => k
def pDp (rec : Nat → Ps ω → Int32 × Ps ω) (n : Nat) (s : Ps ω) : Option Int64 → Int32 × Ps ω
  | none => (7, s)
  | some v => if tG S n 0 = 42 then (if v < 0 then (2, s) else pCt rec (hd0 (kids S n)) v.toInt.toNat s)
      else if tG S n 0 = 47 then (if v < 0 then (2, s) else if 1000 < v then (7, s) else pSd rec (hd0 (kids S n)) (bfN s.1 + v.toInt.toNat) 1000 s)
      else pCh S rec v (kids S n) s
/-- the pass of node n's type, f levels deep at most; 0 fine, 1 the end, 2 wrong; 7 must never be -/
def psF : Nat → Nat → Ps ω → Int32 × Ps ω
  | 0, _, s => (7, s)
  | f + 1, n, s => if tG S n 0 = 123 then pFl S sp (psF f) (kids S n) s
      else if dp (tG S n 0) = true then pDp S (psF f) n s (if mnt S n = 0 then none else s.2.2.1 (mnt S n - 1))
      else pU S U n s
end PUR
theorem bnd_ne {ω : Type} {o : Int32 × Ps ω} {f : Ps ω → Int32 × Ps ω} (h : ¬ (bnd o f).1 = 7) : ¬ o.1 = 7 := by
  unfold bnd at h
  by_cases c : o.1 = 0
  · rw [c]; decide
  · rw [if_neg c] at h; exact h
theorem bnd_0 {ω : Type} {o : Int32 × Ps ω} {f : Ps ω → Int32 × Ps ω} (h : o.1 = 0) : bnd o f = f o.2 := if_pos h
theorem bnd_n {ω : Type} {o : Int32 × Ps ω} {f : Ps ω → Int32 × Ps ω} (h : ¬ o.1 = 0) : bnd o f = o := if_neg h
/-! the class's descent is that pass -/
/-- what stands while the class passes -/
def Bse {ω : Type} (x0 b : Nat) (S : Tb) (s : Ps ω) (h : Hp) : Prop := ((hS h x0).1 = 5 ∨ (hS h x0).1 = 6) ∧ (CpT h b S ∧ Fmt h b) ∧ (hI h x0 0 = iv s.1 ∧ s.1 < 8000) ∧ (∀ q v, s.2.2.1 q = some v → q < S.1 ∧ hL h (b + 2 + q) 15 = v)
def dd (d : Nat) : Nat → Nat
  | 0 => d + 6
  | f + 1 => dd d f + 2
theorem dd_eq (d : Nat) : ∀ f, dd d f = d + 2 * f + 6
  | 0 => rfl
  | f + 1 => by show dd d f + 2 = _; rw [dd_eq d f]; omega
section CLS
variable {ω : Type} {d x0 b : Nat} {S : Tb} {U : Nat → Nat → ω → Int32 × Nat × ω × Int64} {sp : Nat → ω → Int32 × Nat} {Rc : Ps ω → Hp → Prop} {Re : Int32 → Int32 → Hp → Prop}
def Ro (Rc : Ps ω → Hp → Prop) (Re : Int32 → Int32 → Hp → Prop) (o : Int32 × Ps ω) (h : Hp) : Prop := (o.1 = 0 → Rc o.2 h) ∧ Re o.2.2.2.2.1 o.2.2.2.2.2 h
def SpC (x0 : Nat) (sp : Nat → ω → Int32 × Nat) (Rc : Ps ω → Hp → Prop) (Re : Int32 → Int32 → Hp → Prop) : Prop := ∀ (d : Nat) (s : Ps ω) (h : Hp) (K : Int32 → Hp → Prop), Rc s h → (∀ h', Ro Rc Re (spP sp s) h' → K (spP sp s).1 h') → if (hS h x0).1 = 5 then Ca (d + 6) m_Re_passSpare [.ref x0] h (QI K) else Ca (d + 6) m_Wr_passSpare [.ref x0] h (QI K)
def UnC (x0 b : Nat) (S : Tb) (U : Nat → Nat → ω → Int32 × Nat × ω × Int64) (Rc : Ps ω → Hp → Prop) (Re : Int32 → Int32 → Hp → Prop) : Prop := ∀ (d k : Nat) (s : Ps ω) (h : Hp) (K : Int32 → Hp → Prop), k < S.1 → (sz (tG S k 0) = true ∨ sm (tG S k 0) = true) → Rc s h → (∀ h', Ro Rc Re (pU S U k s) h' → K (pU S U k s).1 h') → Ca (d + 6) m_Co_passUnit [.ref x0, .ref (b + 2 + k)] h (QI K)
def RecP (d x0 b : Nat) (S : Tb) (U : Nat → Nat → ω → Int32 × Nat × ω × Int64) (sp : Nat → ω → Int32 × Nat) (Rc : Ps ω → Hp → Prop) (Re : Int32 → Int32 → Hp → Prop) (f : Nat) : Prop := ∀ (D n : Nat) (s : Ps ω) (h : Hp) (K : Int32 → Hp → Prop), D + f = 6 → n < S.1 → Rc s h → ¬ (psF S U sp f n s).1 = 7 → (∀ h', Ro Rc Re (psF S U sp f n s) h' → K (psF S U sp f n s).1 h') → Ca (dd d f) m_Co_passType [.ref x0, .ref (b + 2 + n), .int (iv D)] h (QI K)
theorem CpT.s2 {h : Hp} (F : Fmt h b) {k : Nat} (C : CpT h b S) (hk : k < S.1) : (hS h (b + 2 + k)).1 = 2 := (F.2.2.2 k (by have := C.1.1.2; omega)).2
theorem CpT.nx {h : Hp} (C : CpT h b S) {n x : Nat} {pre l : List Nat} (hn : n < S.1) (e : kids S n = pre ++ x :: l) : hR h (b + 2 + x) 8 = hdR b l := by
  have L := (C.1.2.2.2.1 n hn).2.2
  rw [e] at L
  obtain ⟨pr, q⟩ := L.at
  exact q.2.1
theorem c_flds (hb : ∀ s h, Rc s h → Bse x0 b S s h) (hre : ∀ s h, Rc s h → Re s.2.2.2.1 s.2.2.2.2 h) (hsp : SpC x0 sp Rc Re) {f : Nat} (R : RecP d x0 b S U sp Rc Re f) {D n : Nat} (hD : D + f = 5) (hn : n < S.1) {y1 : Option Value} : ∀ (l pre : List Nat) (s : Ps ω) (h : Hp) (y4 : Option Value) (K : Int32 → Hp → Prop), kids S n = pre ++ l → Rc s h → ¬ (pFl S sp (psF S U sp f) l s).1 = 7 → (∀ h', Ro Rc Re (pFl S sp (psF S U sp f) l s) h' → K (pFl S sp (psF S U sp f) l s).1 h') →
    Wp (dd d f + 1) m_Co_passFields 5 [some (.ref x0), y1, some (.int (iv D)), some (.ref (hdR b l)), y4] [] h (QI K)
  | [], pre, s, h, y4, K, e, r, ne, k => by
    refine w_Co_passFields_5 ?_
    obtain ⟨b1, b2, b3, b4⟩ := hb s h r
    rw [if_pos (show hdR b [] = 0 from rfl)]
    have := hsp (d + 2 * f) s h K r k
    rw [← dd_eq] at this
    exact ⟨b1, this⟩
  | x :: l, pre, s, h, y4, K, e, r, ne, k => by
    have xk : x ∈ kids S n := by rw [e]; simp
    have x1 := (kids_mem.mp xk).1
    have e' : kids S n = (pre ++ [x]) ++ l := by rw [e]; simp
    refine w_Co_passFields_5 ?_
    obtain ⟨b1, ⟨C, F⟩, b3, b4⟩ := hb s h r
    rw [if_neg (show ¬ hdR b (x :: l) = 0 by show ¬ b + 2 + x = 0; omega)]
    refine ⟨CpT.s2 F C x1, ?_⟩
    rw [show hI h (hdR b (x :: l)) 0 = tG S x 0 from (C.1.2.1 x x1).1]
    have go : ∀ (s1 : Ps ω) (h1 : Hp), Rc s1 h1 → ¬ (bnd (psF S U sp f x s1) (pFl S sp (psF S U sp f) l)).1 = 7 → (∀ h', Ro Rc Re (bnd (psF S U sp f x s1) (pFl S sp (psF S U sp f) l)) h' → K (bnd (psF S U sp f x s1) (pFl S sp (psF S U sp f) l)).1 h') →
        ((hS h1 x0).1 = 5 ∨ (hS h1 x0).1 = 6) ∧ Ca (dd d f) m_Co_passType [.ref x0, .ref (hdR b (x :: l)), .int (iv D + 1)] h1 (QI fun v23 h24 => if v23 = 0 then ((hS h24 (hdR b (x :: l))).1 = 2 ∧ ∀ v27 : Nat, v27 = hR h24 (hdR b (x :: l)) 8 → Wp (dd d f + 1) m_Co_passFields 5 [some (.ref x0), y1, some (.int (iv D)), some (.ref v27), some (.int v23)] [] h24 (QI K)) else K v23 h24) := by
      intro s1 h1 r1 ne1 k1
      refine ⟨(hb s1 h1 r1).1, ?_⟩
      rw [iv1, iv_add]
      refine R (D + 1) x s1 h1 _ (by omega) x1 r1 (bnd_ne ne1) fun h' o => ?_
      by_cases c : (psF S U sp f x s1).1 = 0
      · rw [if_pos c]
        have r2 := o.1 c
        obtain ⟨c1, ⟨C2, F2⟩, c3, c4⟩ := hb _ h' r2
        refine ⟨CpT.s2 F2 C2 x1, ?_⟩
        rintro _ rfl
        rw [show hR h' (hdR b (x :: l)) 8 = hdR b l from C2.nx hn e]
        rw [bnd_0 c] at ne1 k1
        exact c_flds hb hre hsp R hD hn l (pre ++ [x]) _ h' _ K e' r2 ne1 k1
      · rw [if_neg c]
        rw [bnd_n c] at k1
        exact k1 h' o
    unfold pFl at ne k
    by_cases p : tG S x 0 = 112
    · rw [if_pos p, if_pos rfl]
      rw [if_pos p, bnd_0 rfl] at ne k
      exact go s h r ne k
    · rw [if_neg p]
      rw [if_neg p] at ne k
      refine ⟨b1, ?_⟩
      have q : ∀ (K2 : Int32 → Hp → Prop), (∀ h', Ro Rc Re (spP sp s) h' → K2 (spP sp s).1 h') → if (hS h x0).1 = 5 then Ca (dd d f) m_Re_passSpare [.ref x0] h (QI K2) else Ca (dd d f) m_Wr_passSpare [.ref x0] h (QI K2) := fun K2 k2 => by
        have := hsp (d + 2 * f) s h K2 r k2
        rw [← dd_eq] at this
        exact this
      refine (q _ ?_)
      intro h' o
      by_cases c : (spP sp s).1 = 0
      · rw [if_pos c]
        rw [bnd_0 c] at ne k
        exact go _ h' (o.1 c) ne k
      · rw [if_neg c, if_neg c]
        rw [bnd_n c] at k
        exact k h' o
theorem c_ctd (hb : ∀ s h, Rc s h → Bse x0 b S s h) (hre : ∀ s h, Rc s h → Re s.2.2.2.1 s.2.2.2.2 h) {f : Nat} (R : RecP d x0 b S U sp Rc Re f) {D n c : Nat} {r : List Nat} (hD : D + f = 5) (hn : n < S.1) (hc : kids S n = c :: r) {v : Int64} (hv : ¬ v < 0) : ∀ (m k : Nat) (s : Ps ω) (h : Hp) (K : Int32 → Hp → Prop), k + m = v.toInt.toNat → Rc s h → ¬ (pCt (psF S U sp f) c m s).1 = 7 → (∀ h', Ro Rc Re (pCt (psF S U sp f) c m s) h' → K (pCt (psF S U sp f) c m s).1 h') →
    Wp (dd d f + 1) m_Co_passCounted 21 [some (.ref x0), some (.ref (b + 2 + n)), some (.int (iv D)), some (.long v), none, some (.int 0), some (.long (jv k)), none] [] h (QI K)
  | 0, k, s, h, K, e, r, ne, kk => by
    have hv2 := v.toInt_lt
    refine w_Co_passCounted_21 ?_
    rw [if_neg (fun q => by rw [Int64.lt_iff_toInt_lt, jv_toInt (by omega)] at q; omega)]
    exact kk h ⟨fun _ => r, hre s h r⟩
  | m + 1, k, s, h, K, e, r, ne, kk => by
    have hv2 := v.toInt_lt
    have c1 : c < S.1 := (kids_mem.mp (show c ∈ kids S n by rw [hc]; simp)).1
    refine w_Co_passCounted_21 ?_
    obtain ⟨b1, ⟨C, F⟩, b3, b4⟩ := hb s h r
    rw [if_pos (show jv k < v by rw [Int64.lt_iff_toInt_lt, jv_toInt (by omega)]; omega), if_pos rfl]
    refine ⟨CpT.s2 F C hn, b1, ?_⟩
    rw [(C.1.2.2.2.1 n hn).1, hc, iv1, iv_add]
    unfold pCt at ne kk
    refine R (D + 1) c s h _ (by omega) c1 r (bnd_ne ne) fun h' o => ?_
    rintro _ rfl
    by_cases z : (psF S U sp f c s).1 = 0
    · rw [z, show (1 : Int64) = jv 1 from rfl, jv_add]
      rw [bnd_0 z] at ne kk
      exact c_ctd hb hre R hD hn hc hv m (k + 1) _ h' K (by omega) (o.1 z) ne kk
    · rw [bnd_n z] at kk
      refine w_Co_passCounted_21 ?_
      by_cases q : jv k + 1 < v
      · rw [if_pos q, if_neg z]; exact kk h' o
      · rw [if_neg q]; exact kk h' o
end CLS
