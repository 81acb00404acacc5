/-! the Model's machine: what it pushes and pops -/
section MCH
variable {d t n : Nat} {S : Tb} {g : Hp}
/-- only the machine's rows and its depth -/
def Mch (g g' : Hp) : Prop := (hR g' = hR g ∧ hD g' = hD g ∧ hS g' = hS g ∧ hN g' = hN g ∧ hU g' = hU g) ∧ (∀ a, ¬ a = 197 → ¬ a = 223 → ¬ a = 224 → ¬ a = 226 → hI g' a = hI g a) ∧ (∀ j, ¬ j = 39 → hI g' 197 j = hI g 197 j) ∧ (∀ a, ¬ a = 225 → hL g' a = hL g a)
theorem Mch.refl (g : Hp) : Mch g g := ⟨⟨rfl, rfl, rfl, rfl, rfl⟩, fun _ _ _ _ _ => rfl, fun _ _ => rfl, fun _ _ => rfl⟩
theorem Mch.trans {g g' g'' : Hp} (a : Mch g g') (b : Mch g' g'') : Mch g g'' := by
  obtain ⟨⟨a1, a2, a3, a4, a5⟩, a6, a7, a8⟩ := a
  obtain ⟨⟨b1, b2, b3, b4, b5⟩, b6, b7, b8⟩ := b
  exact ⟨⟨b1.trans a1, b2.trans a2, b3.trans a3, b4.trans a4, b5.trans a5⟩, fun x h1 h2 h3 h4 => (b6 x h1 h2 h3 h4).trans (a6 x h1 h2 h3 h4), fun j hj => (b7 j hj).trans (a7 j hj), fun x hx => (b8 x hx).trans (a8 x hx)⟩
theorem Mch.sI {a j : Nat} {v : Int32} (h : a = 223 ∨ a = 224 ∨ a = 226 ∨ (a = 197 ∧ j = 39)) : Mch g (sI g a j v) := ⟨⟨rfl, rfl, rfl, rfl, rfl⟩, fun b h1 h2 h3 h4 => hI_ne (by omega), fun k hk => hI_o (by omega), fun _ _ => rfl⟩
theorem Mch.sL {j : Nat} {v : Int64} : Mch g (sL g 225 j v) := ⟨⟨rfl, rfl, rfl, rfl, rfl⟩, fun _ _ _ _ _ => rfl, fun _ _ => rfl, fun b hb => hL_ne hb⟩
theorem Mch.tab {g' : Hp} (m : Mch g g') (T : TabM g S) : TabM g' S := T.mono m.1.1 m.1.2.2.1 (m.2.2.1 23 (by decide)) fun a h1 h2 => m.2.1 a (by omega) (by omega) (by omega) (by omega)
theorem Mch.sa {g' : Hp} {i : Nat} (m : Mch g g') (A : Sa g S i) : Sa g' S i := ⟨fun k hk z => by rw [m.2.2.2 217 (by decide), m.2.2.2 218 (by decide)]; exact A.1 k hk z, fun k hk => by rw [m.2.1 221 (by decide) (by decide) (by decide) (by decide)]; exact A.2 k hk⟩
/-- a frame -/
def Frm (g : Hp) (i n : Nat) (x : Int32) (v : Int64) (p : Int32) : Prop := hI g 223 i = iv n ∧ hI g 224 i = x ∧ hL g 225 i = v ∧ hI g 226 i = p
/-- the frames below t -/
def FrS (t : Nat) (g g' : Hp) : Prop := ∀ i, i < t → hI g' 223 i = hI g 223 i ∧ hI g' 224 i = hI g 224 i ∧ hL g' 225 i = hL g 225 i ∧ hI g' 226 i = hI g 226 i
theorem FrS.refl (t : Nat) (g : Hp) : FrS t g g := fun _ _ => ⟨rfl, rfl, rfl, rfl⟩
theorem FrS.trans {g g' g'' : Hp} (a : FrS t g g') (b : FrS t g' g'') : FrS t g g'' := fun i hi => ⟨(b i hi).1.trans (a i hi).1, (b i hi).2.1.trans (a i hi).2.1, (b i hi).2.2.1.trans (a i hi).2.2.1, (b i hi).2.2.2.trans (a i hi).2.2.2⟩
theorem FrS.le {g g' : Hp} {m : Nat} (a : FrS t g g') (h : m ≤ t) : FrS m g g' := fun i hi => a i (by omega)
theorem FrS.frm {g g' : Hp} {i n : Nat} {x : Int32} {v : Int64} {p : Int32} (a : FrS t g g') (h : i < t) (F : Frm g i n x v p) : Frm g' i n x v p := by
  obtain ⟨b1, b2, b3, b4⟩ := a i h
  exact ⟨b1.trans F.1, b2.trans F.2.1, b3.trans F.2.2.1, b4.trans F.2.2.2⟩
/-- a frame more -/
def pshG (g : Hp) (t n : Nat) (x : Int32) (v : Int64) : Hp := sI (sI (sL (sI (sI g 223 t (iv n)) 224 t x) 225 t v) 226 t (hI g 197 42)) 197 39 (iv (t + 1))
theorem psh_mch {x : Int32} {v : Int64} : Mch g (pshG g t n x v) := ((((Mch.sI (Or.inl rfl)).trans (Mch.sI (Or.inr (Or.inl rfl)))).trans Mch.sL).trans (Mch.sI (Or.inr (Or.inr (Or.inl rfl))))).trans (Mch.sI (Or.inr (Or.inr (Or.inr ⟨rfl, rfl⟩))))
theorem psh_frs {x : Int32} {v : Int64} : FrS t g (pshG g t n x v) := fun i hi => by
  unfold pshG
  refine ⟨?_, ?_, ?_, ?_⟩
  · rw [hI_o (by omega), hI_o (by omega), hI_sL, hI_o (by omega), hI_o (by omega)]
  · rw [hI_o (by omega), hI_o (by omega), hI_sL, hI_o (by omega), hI_o (by omega)]
  · rw [hL_sI, hL_sI, hL_o (by omega), hL_sI, hL_sI]
  · rw [hI_o (by omega), hI_o (by omega), hI_sL, hI_o (by omega), hI_o (by omega)]
theorem psh_frm {x : Int32} {v : Int64} : Frm (pshG g t n x v) t n x v (hI g 197 42) := by
  unfold pshG
  refine ⟨?_, ?_, ?_, ?_⟩
  · rw [hI_o (by omega), hI_o (by omega), hI_sL, hI_o (by omega), hI_s]
  · rw [hI_o (by omega), hI_o (by omega), hI_sL, hI_s]
  · rw [hL_sI, hL_sI, hL_s]
  · rw [hI_o (by omega), hI_s]
theorem psh_dep {x : Int32} {v : Int64} : hI (pshG g t n x v) 197 39 = iv (t + 1) := hI_s
theorem m_133 {K : Hp → Prop} {k : Int32} {x : Int32} {v : Int64} (M : ShM g) (h8 : t < 8) (ht : hI g 197 39 = iv t) (ok : ¬ (k = 63 ∧ x < 0)) (kk : K (pshG g t n x v)) : Wp (d + 1) m_Mo_enter 133 [some (.ref 197), some (.int (iv n)), some (.int k), some (.long v), none, some (.int x)] [] g (QV K) := by
  have a8 : ainr (iv t) 8 = true := ainr_iv (by omega) h8
  have c8 : (iv t).toNatClampNeg = t := iv_clamp (by omega)
  have body : (hS g 197).1 = 8 ∧ Ca d m_Mo_wrong [.ref 197, .int (0 : Int32)] g (QV (fun h101 => ((hS h101 197).1 = 8 ∧ ((hS h101 (hR h101 197 35)).1 = 20 ∧ (¬ (hR h101 197 35) = 1 ∧ (ainr (hI h101 197 39) (hS h101 (hR h101 197 35)).2 = true ∧ (∀ h107 : Hp, h107 = sI h101 (hR h101 197 35) (hI h101 197 39).toNatClampNeg (iv n) → ((hS h101 (hR h107 197 36)).1 = 20 ∧ (¬ (hR h107 197 36) = 1 ∧ (ainr (hI h107 197 39) (hS h101 (hR h107 197 36)).2 = true ∧ (∀ h111 : Hp, h111 = sI h107 (hR h107 197 36) (hI h107 197 39).toNatClampNeg x → ((hS h101 (hR h111 197 37)).1 = 21 ∧ (¬ (hR h111 197 37) = 1 ∧ (ainr (hI h111 197 39) (hS h101 (hR h111 197 37)).2 = true ∧ (∀ h115 : Hp, h115 = sL h111 (hR h111 197 37) (hI h111 197 39).toNatClampNeg v → ((hS h101 (hR h115 197 38)).1 = 20 ∧ (¬ (hR h115 197 38) = 1 ∧ (ainr (hI h115 197 39) (hS h101 (hR h115 197 38)).2 = true ∧ (∀ h119 : Hp, h119 = sI h115 (hR h115 197 38) (hI h115 197 39).toNatClampNeg (hI h115 197 42) → (∀ h120 : Hp, h120 = sI h119 197 39 ((hI h119 197 39) + (1 : Int32)) → K h120)))))))))))))))))))) := by
    refine ⟨M.o, w_Mo_wrong ?_⟩
    rw [if_pos rfl]
    have o1 : ∀ j v, hI (sI g 223 j v) 197 39 = hI g 197 39 := fun _ _ => hI_o (by omega)
    have o2 : ∀ g' j v, hI (sI g' 224 j v) 197 39 = hI g' 197 39 := fun _ _ _ => hI_o (by omega)
    have o3 : ∀ g' j v, hI (sI g' 226 j v) 197 39 = hI g' 197 39 := fun _ _ _ => hI_o (by omega)
    have o4 : ∀ j v, hI (sI g 223 j v) 197 42 = hI g 197 42 := fun _ _ => hI_o (by omega)
    have o5 : ∀ g' j v, hI (sI g' 224 j v) 197 42 = hI g' 197 42 := fun _ _ _ => hI_o (by omega)
    simp only [hR_sI, hS_sI, M.o, M.r35, M.s223, M.r36, M.s224, M.r37, M.s225, M.r38, M.s226, true_and, forall_eq, hR_sL, hI_sL, o1, o2, o3, o4, o5, ht, a8, c8, iv1, iv_add]
    exact ⟨by decide, by decide, by decide, by decide, kk⟩
  refine w_Mo_enter_133 ?_
  by_cases c : k = 63
  · rw [if_pos c, if_neg (fun q => ok ⟨c, q⟩)]
    exact body
  · rw [if_neg c]
    exact body
theorem m_133b {K : Hp → Prop} {k : Int32} {x : Int32} {v : Int64} (M : ShM g) (h8 : t < 8) (ht : hI g 197 39 = iv t) (hf : hI g 197 41 = 0) (ok : k = 63 ∧ x < 0) (kk : K (pshG (sI g 197 41 3) t n x v)) : Wp (d + 1) m_Mo_enter 133 [some (.ref 197), some (.int (iv n)), some (.int k), some (.long v), none, some (.int x)] [] g (QV K) := by
  have a8 : ainr (iv t) 8 = true := ainr_iv (by omega) h8
  have c8 : (iv t).toNatClampNeg = t := iv_clamp (by omega)
  refine w_Mo_enter_133 ?_
  rw [if_pos ok.1, if_pos ok.2]
  refine ⟨M.o, w_Mo_wrong ?_⟩
  rw [if_neg (by decide)]
  refine ⟨M.o, ?_⟩
  rw [if_pos hf]
  rintro _ rfl
  have ht' : hI (sI g 197 41 3) 197 39 = iv t := by rw [hI_o (by omega)]; exact ht
  have o1 : ∀ g' j v, hI (sI g' 223 j v) 197 39 = hI g' 197 39 := fun _ _ _ => hI_o (by omega)
  have o2 : ∀ g' j v, hI (sI g' 224 j v) 197 39 = hI g' 197 39 := fun _ _ _ => hI_o (by omega)
  have o3 : ∀ g' j v, hI (sI g' 226 j v) 197 39 = hI g' 197 39 := fun _ _ _ => hI_o (by omega)
  have o4 : ∀ g' j v, hI (sI g' 223 j v) 197 42 = hI g' 197 42 := fun _ _ _ => hI_o (by omega)
  have o5 : ∀ g' j v, hI (sI g' 224 j v) 197 42 = hI g' 197 42 := fun _ _ _ => hI_o (by omega)
  simp only [hR_sI, hS_sI, M.o, M.r35, M.s223, M.r36, M.s224, M.r37, M.s225, M.r38, M.s226, true_and, forall_eq, hR_sL, hI_sL, o1, o2, o3, o4, o5, ht', a8, c8, iv1, iv_add]
  exact ⟨by decide, by decide, by decide, by decide, kk⟩
/-- the first part of that case -/
def fC (S : Tb) (v : Int64) : List Nat → Option Nat
  | [] => none
  | k :: r => if (tG S k 6).toInt64 = v then some k else fC S v r
def fI : Option Nat → Int32 | none => -1 | some k => iv k
theorem fC_mem {v : Int64} : ∀ {l : List Nat} {k : Nat}, fC S v l = some k → k ∈ l
  | [], k, h => by cases h
  | x :: l, k, h => by
    unfold fC at h
    by_cases q : (tG S x 6).toInt64 = v
    · rw [if_pos q] at h; cases h; exact List.mem_cons_self ..
    · rw [if_neg q] at h; exact List.mem_cons_of_mem _ (fC_mem h)
theorem pCh_fC {ω : Type} {rec : Nat → Ps ω → Int32 × Ps ω} {v : Int64} {s : Ps ω} : ∀ l : List Nat, pCh S rec v l s = match fC S v l with | none => (2, s) | some k => rec k s
  | [] => rfl
  | x :: l => by
    unfold pCh fC
    by_cases q : (tG S x 6).toInt64 = v
    · rw [if_pos q, if_pos q]
    · rw [if_neg q, if_neg q]; exact pCh_fC l
theorem m_97 {K : Hp → Prop} {v : Int64} (T : TabM g S) (hn : n < S.1) : ∀ (l pre : List Nat), kids S n = pre ++ l → Wp (d + 1) m_Mo_enter 133 [some (.ref 197), some (.int (iv n)), some (.int 63), some (.long v), none, some (.int (fI (fC S v l)))] [] g (QV K) → Wp (d + 1) m_Mo_enter 97 [some (.ref 197), some (.int (iv n)), some (.int 63), some (.long v), none, some (.int (hdI l))] [] g (QV K)
  | [], pre, e, k => by
    refine w_Mo_enter_97 ?_
    rw [if_pos rfl, if_pos (by show (-1 : Int32) < 0; decide)]
    exact k
  | x :: l, pre, e, k => by
    have M := T.1
    have u90 := T.2.2.1
    have xk : x ∈ kids S n := by rw [e]; simp
    have x1 := (kids_mem.mp xk).1
    have ax : ainr (iv x) 90 = true := ainr_iv (by omega) (by omega)
    have cx : (iv x).toNatClampNeg = x := iv_clamp (by omega)
    have f6 : hI g 208 x = tG S x 6 := T.f (j := 6) (by decide) x1
    have nx : hI g 211 x = hdI l := by
      have L := (T.2.2.2.2.2 n hn).2
      rw [e] at L
      have : ∀ (pre : List Nat) (b : Int32), LkM g b (pre ++ x :: l) → hI g 211 x = hdI l := by
        intro pre
        induction pre with
        | nil => intro b L; exact L.2.1
        | cons y pre ih => intro b L; exact ih _ L.2.2
      exact this pre _ L
    refine w_Mo_enter_97 ?_
    rw [if_pos rfl, show hdI (x :: l) = iv x from rfl, if_neg (iv_neg (by omega))]
    simp only [hR_sI, hS_sI, M.o, M.r18, M.s208, M.r21, M.s211, true_and, ax, cx, f6, nx, forall_eq]
    unfold fC at k
    by_cases q : (tG S x 6).toInt64 = v
    · rw [if_pos q] at k ⊢; exact k
    · rw [if_neg q] at k ⊢
      exact m_97 T hn l (pre ++ [x]) (by rw [e]; simp) k
end MCH
