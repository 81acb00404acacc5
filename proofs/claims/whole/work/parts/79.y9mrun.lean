/-! the Model's machine does that pass: all of it -/
section MRUN
variable {ω : Type} {d dm : Nat} {S : Tb} {U : Nat → Nat → ω → Int32 × Nat × ω × Int64} {sp : Nat → ω → Int32 × Nat} {Rx Ry Dm : Ps ω → Hp → Prop} {Fl : Int32 → Int32 → Int32 → Hp → Prop} {y1 : Option Value} {KK : Hp → Prop}
def RecMo (dm : Nat) (S : Tb) (U : Nat → Nat → ω → Int32 × Nat × ω × Int64) (sp : Nat → ω → Int32 × Nat) (Rx Ry : Ps ω → Hp → Prop) (Fl : Int32 → Int32 → Int32 → Hp → Prop) (y1 : Option Value) (KK : Hp → Prop) (f : Nat) : Prop := ∀ (D n : Nat) (s : Ps ω) (g : Hp) (j : Nat), (D + 1) + f = 6 → n < S.1 → chn S.2.2 (D + 1) n → Av S n s → ¬ (psF S U sp f n s).1 = 7 → hI g 197 39 = iv D → (onM g n → Rx s g) → (¬ onM g n → Ry s g) →
  ((psF S U sp f n s).1 = 0 → ∀ g', (tG S n 0 = 112 → Rx (psF S U sp f n s).2 g') → (¬ tG S n 0 = 112 → Ry (psF S U sp f n s).2 g') → FrS D g g' → hI g' 197 39 = iv D → LPm dm y1 KK g') →
  (¬ (psF S U sp f n s).1 = 0 → ∀ g', Fl ((psF S U sp f n s).1 + 1) (psF S U sp f n s).2.2.2.2.1 (psF S U sp f n s).2.2.2.2.2 g' → LPm dm y1 KK g') → Ca (j + 14) m_Mo_enter [.ref 197, .int (iv n)] g (QV (LPm dm y1 KK))
theorem spP_al (hs : SOk (ω := ω) sp) {s : Ps ω} (h : s.1 % 8 = 0) : spP sp s = (0, s) := by
  unfold spP
  rw [(hs s.1 s.2.1).2.2 h]
theorem r_flds (T : TW S) (N : Snd_ S) (LA : LvA S) (hs : SOk (ω := ω) sp) (H : MH S U sp Rx Ry Dm Fl) {f D n : Nat} (hD : D + f = 4) (hn : n < S.1) (h123 : tG S n 0 = 123) (hc : chn S.2.2 (D + 1) n) (RI : RecI S U sp f) (R : RecMo dm S U sp Rx Ry Fl y1 KK f) {v : Int64} {p : Int32} {g0 : Hp} : ∀ (l pre : List Nat) (s : Ps ω) (g : Hp), kids S n = pre ++ l → (PB S pre → Rx s g) → (¬ PB S pre → Ry s g) → Av S n s → (∀ m, m ∈ pre → sz (tG S m 0) = true → Rg S s m) → ¬ (pFl S sp (psF S U sp f) l s).1 = 7 → FrS D g0 g → hI g 197 39 = iv (D + 1) → Frm g D n (hdI l) v p →
    ((pFl S sp (psF S U sp f) l s).1 = 0 → ∀ g', Ry (pFl S sp (psF S U sp f) l s).2 g' → FrS D g0 g' → hI g' 197 39 = iv D → LPm dm y1 KK g') →
    (¬ (pFl S sp (psF S U sp f) l s).1 = 0 → ∀ g', Fl ((pFl S sp (psF S U sp f) l s).1 + 1) (pFl S sp (psF S U sp f) l s).2.2.2.2.1 (pFl S sp (psF S U sp f) l s).2.2.2.2.2 g' → LPm dm y1 KK g') → LPm dm y1 KK g
  | l, pre, s, g, e, hx, hy, A, hp, ne, fr, ht, F, kF, kE => by
    have u90 := T.2.1.2
    have B : Bm S s g := by
      by_cases q : PB S pre
      · exact H.1.1 s g (hx q)
      · exact (H.1.2.1 s g (hy q)).1
    obtain ⟨T1, A1, f0, b4, b5⟩ := B
    have spc : ((spP sp s).1 = 0 → Ry (spP sp s).2 g) ∧ (¬ (spP sp s).1 = 0 → (spP sp s).1 = 2 ∧ Dm s g) := by
      by_cases q : PB S pre
      · exact H.2.2.1.2 s g (hx q)
      · have r := hy q
        have := spP_al hs (H.1.2.1 s g r).2
        rw [this]
        exact ⟨fun _ => r, fun z => absurd rfl z⟩
    cases l with
    | nil =>
      unfold pFl at ne kF kE
      refine lp_step T1.1.o f0 ht (by omega) ?_
      refine m_on T1 hn (by omega) ht F (fun _ _ => ?_) (fun _ k hk e => ?_) (fun z => ?_) (fun z => ?_) (fun z => ?_) (fun z => ?_) (fun z => ?_) (fun z => ?_) (fun z => ?_) (Or.inl h123) (Or.inl (by show (-1 : Int32) < 0; decide)) f0
      · by_cases z : (spP sp s).1 = 0
        · have ry := spc.1 z
          refine H.2.2.2.1.1 (dm + 13) _ g _ ry fun g' rx mk => ?_
          refine ⟨(H.1.1 _ _ rx).1.1.o, ?_⟩
          rintro _ rfl
          refine kF z _ (H.2.1.2.1 _ _ _ mch39 (H.2.2.1.1 _ _ rx (H.1.2.1 _ _ ry).2)) ((fr.trans (mk.frs D)).trans frs39) ?_
          rw [hI_s, mk.2, ht, iv_dec]
        · obtain ⟨z2, dmg⟩ := spc.2 z
          refine H.2.2.2.1.2.1 (dm + 13) s g _ dmg fun g' fl hd => ?_
          refine ⟨(H.2.2.2.2.2.2 _ _ _ _ fl).1, ?_⟩
          rintro _ rfl
          refine kE z _ (H.2.2.2.2.2.1 _ _ _ _ _ mch39 ?_)
          rw [z2]; exact fl
      · exfalso
        have : (-1 : Int32) = iv k := e
        have l : (-1 : Int32) < 0 := by decide
        rw [this] at l
        exact iv_neg (by omega) l
      all_goals (rw [h123] at z; exact absurd z (by decide))
    | cons x l =>
      have xk : x ∈ kids S n := by rw [e]; simp
      have x1 := (kids_mem.mp xk).1
      have e' : kids S n = (pre ++ [x]) ++ l := by rw [e]; simp
      have srt : (kids S n).Pairwise (· < ·) := kids_sorted S n
      have mc : Mch g (sI g 224 D (hdI l)) := Mch.sI (Or.inr (Or.inl rfl))
      -- the part is entered with s1
      have go : ∀ s1 : Ps ω, KV S s s1 → (onM (sI g 224 D (hdI l)) x → Rx s1 (sI g 224 D (hdI l))) → (¬ onM (sI g 224 D (hdI l)) x → Ry s1 (sI g 224 D (hdI l))) → pFl S sp (psF S U sp f) (x :: l) s = bnd (psF S U sp f x s1) (pFl S sp (psF S U sp f) l) → LPm dm y1 KK g := by
        intro s1 k1 ex ey ep
        rw [ep] at ne kF kE
        have Ax : Av S x s1 := by
          intro m hm hz
          rcases (bf_kid T.1 xk).mp hm with ⟨-, m1, m2⟩ | q
          · rw [e] at m1 srt
            have : m ∈ pre := by
              rcases List.mem_append.mp m1 with z | z
              · exact z
              · exfalso
                rw [List.pairwise_append] at srt
                rcases List.mem_cons.mp z with z | z
                · omega
                · have := (List.pairwise_cons.mp srt.2.1).1 m z; omega
            exact k1 m (hp m this hz)
          · exact k1 m (A m q hz)
        have al : ¬ tG S x 0 = 112 → s1.1 % 8 = 0 := fun q => (H.1.2.1 _ _ (ey (not_on (mc.tab T1) x1 q))).2
        refine lp_step T1.1.o f0 ht (by omega) ?_
        refine m_on T1 hn (by omega) ht F (fun _ q => ?_) (fun _ k hk e2 => ?_) (fun z => ?_) (fun z => ?_) (fun z => ?_) (fun z => ?_) (fun z => ?_) (fun z => ?_) (fun z => ?_) (Or.inl h123) (Or.inr ⟨x, x1, rfl⟩) f0
        · exact absurd q (iv_neg (by omega))
        · have : k = x := by
            have e2 : iv x = iv k := e2
            exact ((iv_inj (by omega) (by omega)).mp e2).symm
          subst this
          have L := (T1.2.2.2.2.2 n hn).2
          rw [e] at L
          rw [(lk_at pre _ L).2]
          obtain ⟨r1, r2⟩ := RI (D + 1 + 1) k s1 (by omega) x1 (chn_kid xk hc) Ax al
          refine R (D + 1) k s1 _ (dm + 0) (by omega) x1 (chn_kid xk hc) Ax (bnd_ne ne) (by rw [hI_o (by omega)]; exact ht) ex ey (fun z g' h1 h2 fr' ht' => ?_) fun z g' fl => ?_
          · obtain ⟨a1, a2, a3, a4, a5⟩ := r2 z
            rw [bnd_0 z] at ne kF kE
            refine r_flds T N LA hs H hD hn h123 hc RI R (v := v) (p := p) (g0 := g0) l (pre ++ [k]) _ g' e' (fun q => h1 (PB_app.mp q)) (fun q => h2 fun w => q (PB_app.mpr w)) (A.kv (k1.trans a4)) (fun m hm hz => ?_) ne ((fr.trans frs224).trans (fr'.le (by omega))) ht' ?_ kF kE
            · rcases List.mem_append.mp hm with q | q
              · exact a4 m (k1 m (hp m q hz))
              · have : m = k := by simpa using q
                rw [this] at hz ⊢; exact a5 hz
            · refine fr'.frm (by omega) ⟨?_, hI_s, F.2.2.1, ?_⟩
              · rw [hI_o (by omega)]; exact F.1
              · rw [hI_o (by omega)]; exact F.2.2.2
          · rw [bnd_n z] at kE
            exact kE z g' fl
        all_goals (rw [h123] at z; exact absurd z (by decide))
      by_cases c : tG S x 0 = 112
      · refine go s (fun m h => h) (fun q => H.2.1.1 _ _ _ mc (hx ((on_pb (mc.tab T1) hn e).mp q).2)) (fun q => H.2.1.2.1 _ _ _ mc (hy fun w => q ((on_pb (mc.tab T1) hn e).mpr ⟨c, w⟩))) ?_
        show bnd (if tG S x 0 = 112 then (0, s) else spP sp s) _ = _
        rw [if_pos c, bnd_0 rfl]
      · by_cases z : (spP sp s).1 = 0
        · refine go (spP sp s).2 (fun m h => h) (fun q => absurd q (not_on (mc.tab T1) x1 c)) (fun q => H.2.1.2.1 _ _ _ mc (spc.1 z)) ?_
          show bnd (if tG S x 0 = 112 then (0, s) else spP sp s) _ = _
          rw [if_neg c, bnd_0 z]
        · obtain ⟨z2, dmg⟩ := spc.2 z
          have ep : pFl S sp (psF S U sp f) (x :: l) s = spP sp s := by
            show bnd (if tG S x 0 = 112 then (0, s) else spP sp s) _ = _
            rw [if_neg c, bnd_n z]
          rw [ep] at kE
          refine d_flds T H hD hn h123 hc (d_pass T N LA H f) A (fun g' fl => kE z g' (by rw [z2]; exact fl)) (v := v) (p := p) (x :: l) pre g e (fun y r ey q => ?_) dmg hp ht F
          cases ey; exact c q.1
end MRUN
