/-! a compiled format at b, and what the Model makes of its formed text -/
theorem CpT.mono {h h' : Hp} {b : Nat} {S : Tb} (C : CpT h b S) (n0 : hI h' b 1 = hI h b 1) (n1 : ∀ k, k < 90 → hI h' (b + 2 + k) = hI h (b + 2 + k) ∧ hR h' (b + 2 + k) = hR h (b + 2 + k) ∧ ∀ j, ¬ j = 15 → hL h' (b + 2 + k) j = hL h (b + 2 + k) j) : CpT h' b S := by
  obtain ⟨⟨⟨f1, f1'⟩, f2, f3, f4, f5⟩, c2, c3⟩ := C
  refine ⟨⟨⟨by rw [n0]; exact f1, f1'⟩, fun k hk => ?_, fun k hk => ?_, fun q hq => ?_, fun k hk hE q e e2 => ?_⟩, fun k hk hd => ?_, fun k hk => ?_⟩
  · obtain ⟨x1, x2, x3⟩ := n1 k (by omega)
    obtain ⟨a1, a2, a3⟩ := f2 k hk
    exact ⟨by rw [x1]; exact a1, by rw [x1]; exact a2, by rw [x2]; exact a3⟩
  · obtain ⟨x1, x2, x3⟩ := n1 k (by omega)
    obtain ⟨a1, a2, a3, a4⟩ := f3 k hk
    exact ⟨by rw [x1]; exact a1, fun q => by rw [x1]; exact a2 q, by rw [x3 _ (by decide)]; exact a3, by rw [x3 _ (by decide)]; exact a4⟩
  · obtain ⟨x1, x2, x3⟩ := n1 q (by omega)
    obtain ⟨a1, a2, a3⟩ := f4 q hq
    exact ⟨by rw [x2]; exact a1, by rw [x2]; exact a2, a3.mono fun k hk => (n1 k (by have := (kids_mem.mp hk).1; omega)).2.1⟩
  · rw [(n1 k (by omega)).1]; exact f5 k hk hE q e e2
  · rw [(n1 k (by omega)).2.1]; exact c2 k hk hd
  · obtain ⟨x1, x2, x3⟩ := n1 k (by omega)
    rcases c3 k hk with q | ⟨q1, q2⟩
    · exact Or.inl q
    · exact Or.inr ⟨by rw [x3 _ (by decide)]; exact q1, by rw [x3 _ (by decide)]; exact q2⟩
def Comp (h : Hp) (b : Nat) : Prop := ∃ t N, Src h 1 t N ∧ ∀ F G, ∃ S, pT t 5 0 0 (-1) (-1) (-1) (0, F, G) = (N, some S) ∧ Snd_ S ∧ CpT h b S
theorem Comp.mono {h h' : Hp} {b : Nat} (C : Comp h b) (e1 : hI h' 199 = hI h 199) (e2 : hI h' 197 4 = hI h 197 4) (n0 : hI h' b 1 = hI h b 1) (n1 : ∀ k, k < 90 → hI h' (b + 2 + k) = hI h (b + 2 + k) ∧ hR h' (b + 2 + k) = hR h (b + 2 + k) ∧ ∀ j, ¬ j = 15 → hL h' (b + 2 + k) j = hL h (b + 2 + k) j) : Comp h' b := by
  obtain ⟨t, N, ⟨s1, s2, s3⟩, c⟩ := C
  refine ⟨t, N, ⟨s1, s2, ?_⟩, fun F G => ?_⟩
  · rw [e1, e2]
    rcases s3 with ⟨q, -, -⟩ | q
    · exact absurd q (by decide)
    · exact Or.inr q
  · obtain ⟨S, a1, a2, a3⟩ := c F G
    exact ⟨S, a1, a2, a3.mono n0 n1⟩
/-- between the calls; n calls were made -/
def Inv (n db cb : Nat) (h : Hp) : Prop :=
  (231 ≤ hN h ∧ hN h ≤ 231 + 4 * n ∧ hU h ≤ 12000 + 60 * n) ∧ Shp h db cb ∧ ((∃ t, Txt h t) ∧ (∃ t, Msg h t) ∧ (∃ t, Vls h t) ∧ (∃ t, Byt h 9 10 t 120) ∧ (∃ t, Lng h 11 12 t 160)) ∧ Flg h ∧ (hI h 2 7 = 1 → Comp h cb)
/-- the script and the world around stand -/
def Mid (h h' : Hp) : Prop := hS h' 1 = hS h 1 ∧ hI h' 1 = hI h 1
theorem Mid.trans {h h' h'' : Hp} (a : Mid h h') (b : Mid h' h'') : Mid h h'' := ⟨b.1.trans a.1, b.2.trans a.2⟩
theorem Mid.refl (h : Hp) : Mid h h := ⟨rfl, rfl⟩
theorem Mid.of {h h' : Hp} (s : Sm h h' 1) : Mid h h' := ⟨s.2.2.2.2, s.1⟩
/-- all that lies below 231 but for what the call is about -/
theorem Inv.keep {n db cb : Nat} {h h' : Hp} (I : Inv n db cb h) (L : Lo h h') (hn : hN h ≤ hN h' ∧ hN h' ≤ hN h + 4 ∧ hU h' ≤ hU h + 60) (ht : ∃ t, Txt h' t) (hm : ∃ t, Msg h' t) (hv : ∃ t, Vls h' t) (hb : ∃ t, Byt h' 9 10 t 120) (hl : ∃ t, Lng h' 11 12 t 160) (hf : Flg h') (hc : hI h' 2 7 = 1 → Comp h' cb) : Inv (n + 1) db cb h' := by
  obtain ⟨⟨i1, i2, i3⟩, i4, -, -, -⟩ := I
  exact ⟨⟨by omega, by omega, by omega⟩, i4.lo L, ⟨ht, hm, hv, hb, hl⟩, hf, hc⟩
theorem QI.imp {K K' : Int32 → Hp → Prop} {d : Nat} {m : Mr} {as : List Value} {h : Hp} (a : Ca d m as h (QI K)) (k : ∀ v h', K v h' → K' v h') : Ca d m as h (QI K') := Wp.imp a fun r h' ⟨v, e, q⟩ => ⟨v, e, k v h' q⟩
