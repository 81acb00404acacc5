/-! the pass from the root on -/
section TOP
variable {ω : Type} {d dm x0 b : Nat} {S : Tb} {U : Nat → Nat → ω → Int32 × Nat × ω × Int64} {sp : Nat → ω → Int32 × Nat} {Rx Ry Dm : Ps ω → Hp → Prop} {Fl : Int32 → Int32 → Int32 → Hp → Prop} {y1 : Option Value} {KK : Hp → Prop} {Rc : Ps ω → Hp → Prop} {Re : Int32 → Int32 → Hp → Prop}
theorem av_root (T : TW S) (s : Ps ω) : Av S 0 s := fun m h _ => by
  have h : BfF S m 1 0 := h
  rw [BfF_s, T.2.2.2.1] at h
  exact h.elim
theorem chn_root (T : TW S) : chn S.2.2 1 0 := by
  rw [chn_s, T.2.2.2.1]
theorem root_112 (T : TW S) (N : Snd_ S) : ¬ tG S 0 0 = 112 := fun z => by
  obtain ⟨q, q1, -⟩ := (N.1 0 T.2.1.1).1.1 z
  rw [T.2.2.2.1] at q1; cases q1
/-- from the beginning on -/
theorem p_ne (T : TW S) (N : Snd_ S) (LA : LvA S) (hs : SOk (ω := ω) sp) (hu : UOk S U) {s : Ps ω} (al : s.1 % 8 = 0) : ¬ (psF S U sp 5 0 s).1 = 7 := (i_pass T N LA hs hu 5 1 0 s rfl T.2.1.1 (chn_root T) (av_root T s) fun _ => al).1
/-- the class's -/
theorem c_top (T : TW S) (N : Snd_ S) (LA : LvA S) (hs : SOk (ω := ω) sp) (hu : UOk S U) (hb : ∀ s h, Rc s h → Bse x0 b S s h) (hre : ∀ s h, Rc s h → Re s.2.2.2.1 s.2.2.2.2 h) (hsp : SpC x0 sp Rc Re) (hun : UnC x0 b S U Rc Re) {s : Ps ω} {h : Hp} {K : Int32 → Hp → Prop} (al : s.1 % 8 = 0) (r : Rc s h) (kk : ∀ h', Ro Rc Re (psF S U sp 5 0 s) h' → K (psF S U sp 5 0 s).1 h') : Ca (d + 16) m_Co_passType [.ref x0, .ref (b + 2 + 0), .int 1] h (QI K) :=
  c_passP (d := d) T hb hre hsp hun 5 1 0 s h K rfl T.2.1.1 r (p_ne T N LA hs hu al) kk
/-- the Model's -/
theorem r_top (T : TW S) (N : Snd_ S) (LA : LvA S) (hs : SOk (ω := ω) sp) (hu : UOk S U) (H : MH S U sp Rx Ry Dm Fl) {s : Ps ω} {g : Hp} (ry : Ry s g) (ht : hI g 197 39 = 0)
    (kF : (psF S U sp 5 0 s).1 = 0 → ∀ g', Ry (psF S U sp 5 0 s).2 g' → KK g')
    (kE : ¬ (psF S U sp 5 0 s).1 = 0 → ∀ g', Fl ((psF S U sp 5 0 s).1 + 1) (psF S U sp 5 0 s).2.2.2.2.1 (psF S U sp 5 0 s).2.2.2.2.2 g' → KK g') : Ca (dm + 15) m_Mo_enter [.ref 197, .int (iv 0)] g (QV (LPm dm y1 KK)) := by
  obtain ⟨⟨T1, -⟩, al⟩ := H.1.2.1 s g ry
  have n112 := root_112 T N
  refine r_pass T N LA hs hu H 5 0 0 s g (dm + 1) rfl T.2.1.1 (chn_root T) (av_root T s) (p_ne T N LA hs hu al) ht (fun q => absurd q (not_on T1 T.2.1.1 n112)) (fun _ => ry) (fun z g' _ h2 _ ht' => ?_) fun z g' fl => ?_
  · have ry' := h2 n112
    refine w_Mo_pass_50 ⟨(H.1.2.1 _ _ ry').1.1.1.o, ?_⟩
    rw [ht', if_neg (by decide)]
    exact kF z g' ry'
  · obtain ⟨o, f, c0, -⟩ := H.2.2.2.2.2.2 _ _ _ _ fl
    have f0 : ¬ hI g' 197 41 = 0 := fun y => by rw [y] at f; rw [← f] at c0; exact absurd c0 (by decide)
    refine w_Mo_pass_50 ⟨o, ?_⟩
    rw [if_neg f0]
    have k := kE z g' fl
    split
    · exact k
    · exact k
end TOP
