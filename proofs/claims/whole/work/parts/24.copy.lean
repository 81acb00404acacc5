section CP
variable {p : Program} {l : Launch} {e : Env} {R : Room} {s : State} {mid : MethodId} {args : Array Value} {below : List Frame} {meth : Method} {c : Code} {H : Heap} {locs : List Loc} {cells slots : Nat} {Q : State → Prop}
variable {w : Wd} {m : Mr} {d pc : Nat} {hs h : Hp} {lc : Lc} {st : List Value} {ls : Array Slot} {X : Nx} {h' : Hp}
theorem nn_int (z : Int32) (hz : ¬ z < 0) : z.toInt = (z.toNatClampNeg : Int) := by
  have hz0 : (0 : Int) ≤ z.toInt := by
    have := Int32.not_lt.mp hz
    simpa using Int32.le_iff_toInt_le.mp this
  show z.toInt = ((z.toInt.toNat : Nat) : Int)
  omega
/-- the native copy between two cells of arrays, over the machine -/
theorem hc_copy (C : Cx w p e R s mid meth c m d hs) (G : Gd l w) {k : Nat} (hw : Jvm.Cond.methodLink (clN (mC m)) k arraycopyName ∈ lw_tbl) (hd : decode (mB m) pc = .ok (.invokestatic k, 3)) {cA : ClassId} {ty : FieldType} (hK : ArrOfT s cA ty) (hprim : refKind ty = false) (mk : Nat → Nat → Value) (hmk : ∀ x y, (∃ z, mk x y = .int z) ∨ ∃ z, mk x y = .long z)
    {α : Type} (mv : α → Value) (hmv : ∀ z : α, (∃ q, mv z = .int q) ∨ ∃ q, mv z = .long q) {A B n0 n1 : Nat} {f g : Nat → α} (ha : H[A]? = some (arrV cA n0 (fun j => mv (f j)))) (hb : H[B]? = some (arrV cA n1 (fun j => mv (g j)))) {i j n : Int32} (h1 : ¬ i < 0) (h2 : ¬ j < 0) (h3 : ¬ n < 0)
    (h4 : i.toNatClampNeg + n.toNatClampNeg ≤ n0) (h5 : j.toNatClampNeg + n.toNatClampNeg ≤ n1) (hfit : ∀ q, q < n.toNatClampNeg → fits ty (mv (f (i.toNatClampNeg + q))) = true) {rest : List Value} (hr : (rest.map fun v => v.category).sum ≤ 32) (hls : ls.size = mL m)
    (kk : ∀ (H' : Heap) (locs' : List Loc), H'[B]? = some (arrV cA n1 (fun q => mv (va_cpy f g i.toNatClampNeg j.toNatClampNeg n.toNatClampNeg q))) → H'.size = H.size → (∀ q, q ≠ B → H'[q]? = H[q]?) → (∀ q ∈ locs', q ∈ locs ∨ q.base = B) → W p l e R s mid args below meth c H' locs' cells slots Q (F0 mid (pc + 3) ls rest)) :
    W p l e R s mid args below meth c H locs cells slots Q (F0 mid pc ls (.int n :: .int j :: .ref B :: .int i :: .ref A :: rest)) := by
  intro T hT X
  have hroom := C.2.2.2
  obtain ⟨-, k0, hk0, cm0, hkk0⟩ := hK n0 (fun q => mv (f q))
  obtain ⟨-, k1, hk1, cm1, hkk1⟩ := hK n1 (fun q => mv (g q))
  obtain ⟨vm', X', step⟩ := X.arraycopy C.x C.own (G.word C.wm hw rfl) (G.word C.wm cp_n rfl) (G.word C.wm cp_s rfl) (G.word C.wm cp_i rfl) (src := A) (dst := B) (cs := arrV cA n0 (fun q => mv (f q))) (cd := arrV cA n1 (fun q => mv (g q))) (srcPos := i) (destPos := j) (n := n) (by rw [hT]; exact ha) (by rw [hT]; exact hb)
    (fun _ h => by cases h) (fun _ h => by cases h) (fun h => by cases h) (fun h => by cases h) hk0 hk1 hkk0 hkk1 (by simp [hprim]) h1 h2 h3
    (by rw [nn_int i h1, nn_int n h3, arrV_size]; omega)
    (by rw [nn_int j h2, nn_int n h3, arrV_size]; omega)
    (fun vm₁ _ q hq => by
      have e : (arrV cA n0 (fun q => mv (f q))).slots.getD (i.toNatClampNeg + q) .null = mv (f (i.toNatClampNeg + q)) := by
        rw [Array.getD_eq_getD_getElem?, arrV_read _ _ (by omega)]
        rfl
      refine ⟨?_, ?_⟩
      · rw [e]
        exact hfit q hq
      · rw [e]
        rcases hmv (f (i.toNatClampNeg + q)) with ⟨z, hz⟩ | ⟨z, hz⟩ <;> rw [hz] <;> exact trivial)
    (g := F0 mid pc ls (.int n :: .int j :: .ref B :: .int i :: .ref A :: rest)) rfl (by rw [C.1.2.2.2]; exact hls) (rest := rest) rfl (by rw [C.b]; exact hd) (by omega) (by
      have : nativeFrameWords "java/lang/System" "arraycopy" 5 ≤ 60 := by decide +kernel
      show 2 * 0 + _ + _ ≤ _; omega)
  have e1 : copied (arrV cA n0 (fun q => mv (f q))) (arrV cA n1 (fun q => mv (g q))) i j n = arrV cA n1 (fun q => mv (va_cpy f g i.toNatClampNeg j.toNatClampNeg n.toNatClampNeg q)) := va_copied mv cA cA f g h4
  rw [e1] at X' step
  have hl : B < H.size := (Array.getElem?_eq_some_iff.mp hb).1
  have hheap : ((T.setVm vm').setCell B (arrV cA n1 (fun q => mv (va_cpy f g i.toNatClampNeg j.toNatClampNeg n.toNatClampNeg q)))).heap = H.setIfInBounds B (arrV cA n1 (fun q => mv (va_cpy f g i.toNatClampNeg j.toNatClampNeg n.toNatClampNeg q))) := by rw [← hT]; rfl
  obtain ⟨t, a1, b1⟩ := kk _ _ (by simp [hl]) (by simp) (fun q hq => by simp [Array.getElem?_setIfInBounds, Ne.symm hq]) (fun q hq => by
      rcases List.mem_append.mp hq with h | h
      · exact Or.inl h
      · obtain ⟨z, -, hz⟩ := List.mem_map.mp h
        rw [← hz]
        exact Or.inr rfl) _ hheap X'
  exact ⟨t, step t a1, b1⟩
theorem hh_copy (G : Gd l w) (C : Cx w p e R s mid meth c m d hs) (r : Rel w h H) (hlo : ∀ q ∈ locs, bas w ≤ q.base) (hLR : LR w (mL m) lc ls) {k : Nat} (hw : Jvm.Cond.methodLink (clN (mC m)) k arraycopyName ∈ lw_tbl) (hd : decode (mB m) pc = .ok (.invokestatic k, 3)) (h0 : cpA pc lc st h = some (.inl (X.1, X.2.1, X.2.2, h'))) (K : Kh p l e R s mid args below meth c Q w (mL m) X h') :
    W p l e R s mid args below meth c H locs cells slots Q (F0 mid pc ls (st.map (cv w))) := by
  obtain ⟨pc', lc', st'⟩ := X
  unfold cpA at h0
  split at h0
  · rename_i n j b i a r1
    split at h0
    · rename_i hc
      obtain ⟨h3, h2, h1, ha1, hb1, hk, hkb, h4, h5, hr⟩ := hc
      simp only [Option.some.injEq, Sum.inl.injEq, Prod.mk.injEq] at h0
      obtain ⟨rfl, rfl, rfl, rfl⟩ := h0
      have hcat := cat_cv (w := w) r1
      have hls : ls.size = mL m := hLR.2.1
      show W p l e R s mid args below meth c H locs cells slots Q (F0 mid pc ls (.int n :: .int j :: cv w (.ref b) :: .int i :: cv w (.ref a) :: r1.map (cv w)))
      rcases hkb with kb | kb
      · have ka : (hS h a).1 = 22 := by rw [hk]; exact kb
        obtain ⟨a1, a2, ea, hata⟩ := r.arr ka ha1 (by decide)
        obtain ⟨b1, b2, eb, hatb⟩ := r.arr kb hb1 (by decide)
        rw [ea, eb]
        unfold cellE at hata hatb
        rw [if_neg (by omega), if_neg (by omega), if_pos ka] at hata
        rw [if_neg (by omega), if_neg (by omega), if_pos kb] at hatb
        refine hc_copy C G hw hd (G.KA C.wm 2 (k := 22) rfl).1 rfl (fun _ _ => .int 0) (fun _ _ => Or.inl ⟨_, rfl⟩) (fun z : Int32 => Value.int z) (fun z => Or.inl ⟨z, rfl⟩) (f := hI h a) (g := hI h b) hata hatb h1 h2 h3 h4 h5 (fun q _ => r.2.2.2.2.2.2 a ka _) (by omega) hls fun H' locs' z1 z2 z3 z4 => ?_
        rw [if_pos kb] at K
        refine K H' locs' cells slots ls (r.put (a := b) ⟨b1, b2⟩ rfl rfl rfl (fun q hq => ⟨by funext k; simp [hI, cI, cpy, hq], rfl, rfl, rfl⟩) (fun z q => ?_) hatb z1 (by rw [arrV_size, vp_cell_i, arrV_size]) z2 z3 ?_) (fun q hq => ?_) hLR
        · have f1 := r.2.2.2.2.2.2 a ka (i.toNatClampNeg + (q - j.toNatClampNeg))
          have f2 := r.2.2.2.2.2.2 b kb q
          simp only [hI, cI, cpy, true_and]
          split
          · exact f1
          · exact f2
        · unfold cellE
          rw [if_neg (by show ¬ (hS h b).1 = 20; omega), if_neg (by show ¬ (hS h b).1 = 21; omega), if_pos (by exact kb)]
          show H'[_]? = some (vp_cell _ _)
          rw [z1, vp_cell_i]
          congr 2
          funext q
          simp [va_cpy, hI, cI, cpy]
        · rcases z4 q hq with z | z
          · exact hlo q z
          · rw [z]; omega
      · have ka : (hS h a).1 = 21 := by rw [hk]; exact kb
        obtain ⟨a1, a2, ea, hata⟩ := r.arr ka ha1 (by decide)
        obtain ⟨b1, b2, eb, hatb⟩ := r.arr kb hb1 (by decide)
        rw [ea, eb]
        unfold cellE at hata hatb
        rw [if_neg (by omega), if_pos ka] at hata
        rw [if_neg (by omega), if_pos kb] at hatb
        refine hc_copy C G hw hd (G.KA C.wm 1 (k := 21) rfl).1 rfl (fun _ _ => .int 0) (fun _ _ => Or.inl ⟨_, rfl⟩) (fun z : Int64 => Value.long z) (fun z => Or.inr ⟨z, rfl⟩) (f := hL h a) (g := hL h b) hata hatb h1 h2 h3 h4 h5 (fun q _ => rfl) (by omega) hls fun H' locs' z1 z2 z3 z4 => ?_
        rw [if_neg (by omega)] at K
        refine K H' locs' cells slots ls (r.put (a := b) ⟨b1, b2⟩ rfl rfl rfl (fun q hq => ⟨rfl, by funext k; simp [hL, cL, cpy, hq], rfl, rfl⟩) (fun z q => absurd z (by omega)) hatb z1 (by rw [arrV_size, vp_cell_l, arrV_size]) z2 z3 ?_) (fun q hq => ?_) hLR
        · unfold cellE
          rw [if_neg (by show ¬ (hS h b).1 = 20; omega), if_pos (by exact kb)]
          show H'[_]? = some (vp_cell _ _)
          rw [z1, vp_cell_l]
          congr 2
          funext q
          simp [va_cpy, hL, cL, cpy]
        · rcases z4 q hq with z | z
          · exact hlo q z
          · rw [z]; omega
    · cases h0
  · cases h0
end CP
