section CMP
variable {d n db cb : Nat} {h : Hp}
/-- the parts of what holds between the calls, told one by one -/
theorem Inv.gen {h' : Hp} {db' cb' : Nat} (I : Inv n db cb h) (hn : hN h ≤ hN h' ∧ hN h' ≤ hN h + 4 ∧ hU h' ≤ hU h + 60) (sh : Shp h' db' cb') (hs : ∀ a, a < 13 → hS h' a = hS h a) (hr : ∀ a, a < 13 → ¬ a = 2 → hR h' a = hR h a) (hi : ∀ a, a < 13 → ¬ a = 2 → hI h' a = hI h a) (hl : ∀ a, a < 13 → hL h' a = hL h a) (hm : ∀ j, j = 2 ∨ j = 7 ∨ j = 9 → hI h' 197 j = hI h 197 j) (ha : hI h' 198 = hI h 198 ∧ hI h' 200 = hI h 200 ∧ hL h' 201 = hL h 201) (hf : Flg h') (hc : hI h' 2 7 = 1 → Comp h' cb') : Inv (n + 1) db' cb' h' := by
  obtain ⟨⟨i1, i2, i3⟩, -, ⟨⟨t, T⟩, ⟨m, M⟩, ⟨v, V⟩, ⟨b, B⟩, ⟨l, L⟩⟩, F, C⟩ := id I
  refine ⟨⟨by omega, by omega, by omega⟩, sh, ⟨⟨t, T.1.dr ⟨hs _ (by decide), hs _ (by decide)⟩ (hr 3 (by decide) (by decide)) (by rw [hi 3 (by decide) (by decide)]), by rw [hm 2 (Or.inl rfl)]; exact T.2.1, fun i hi' => by rw [hi 4 (by decide) (by decide), ha.1]; exact T.2.2 i hi'⟩,
    ⟨m, M.1.dr ⟨hs _ (by decide), hs _ (by decide)⟩ (hr 5 (by decide) (by decide)) (by rw [hi 5 (by decide) (by decide)]), by rw [hm 7 (Or.inr (Or.inl rfl))]; exact M.2.1, fun i hi' => by rw [hi 6 (by decide) (by decide), ha.2.1]; exact M.2.2 i hi'⟩,
    ⟨v, V.1.dr ⟨hs _ (by decide), hs _ (by decide)⟩ (hr 7 (by decide) (by decide)) (by rw [hi 7 (by decide) (by decide)]), by rw [hm 9 (Or.inr (Or.inr rfl))]; exact V.2.1, fun i hi' => by rw [hl 8 (by decide), ha.2.2]; exact V.2.2 i hi'⟩,
    ⟨b, B.dr ⟨hs _ (by decide), hs _ (by decide)⟩ (hr 9 (by decide) (by decide)) (by rw [hi 9 (by decide) (by decide)])⟩, ⟨l, L.dr ⟨hs _ (by decide), hs _ (by decide)⟩ (hr 11 (by decide) (by decide)) (by rw [hi 11 (by decide) (by decide)])⟩⟩, hf, hc⟩
/-- what the class's compiling leaves: all but the draft, its own flags and formats, the answer -/
def CFm (db : Nat) (h h1 : Hp) : Prop := (hN h ≤ hN h1 ∧ hN h1 ≤ hN h + 4 ∧ hU h1 ≤ hU h + 60) ∧ (∀ a, a < 231 → hS h1 a = hS h a) ∧ (∀ a, a < 231 → ¬ (db ≤ a ∧ a < db + 92) → ¬ a = 2 → ¬ a = 229 → hI h1 a = hI h a ∧ hL h1 a = hL h a ∧ hR h1 a = hR h a ∧ hD h1 a = hD h a) ∧ (∀ j, ¬ j = 7 → hI h1 2 j = hI h 2 j) ∧ (∀ j, ¬ j = 5 → ¬ j = 6 → hR h1 2 j = hR h 2 j) ∧ Fmt h1 db ∧ hL h1 2 = hL h 2
theorem c_most {K : Int32 → Hp → Prop} {b : Nat} {S : Tb} (F : Fcx h b S) (nb : ¬ tG S 0 0 = 112) (C : CpT h b S) (hm : (me S 0).2 ≤ 1000) (k : K (iv (me S 0).2) h) : Ca (d + 1) m_Fo_most [.ref b] h (QI K) := by
  have u := F.2.2.2.2.1
  have f4 := F.2.1.2.2.2 0 (by decide)
  refine w_Fo_most ⟨F.2.1.1, w_Fo_whole ⟨F.2.1.1, ?_⟩⟩
  rw [F.1.1.1, if_pos (show 0 < iv S.1 from (iv_lt (a := 0) (by decide) (by omega)).mpr u.1), F.2.1.2.1, F.2.1.2.2.1]
  refine ⟨rfl, by decide, ?_⟩
  rw [show (0 : Int32).toNatClampNeg = 0 by decide, f4.1, if_neg (by omega)]
  refine ⟨f4.2, ?_⟩
  rw [((C.2.2 0 u.1).resolve_left nb).2]
  have e : (jv (me S 0).2).toInt32 = iv (me S 0).2 := by
    rw [← iv_jv (by omega)]; exact Int32.toInt32_toInt64 _
  rw [e]; exact k
theorem c_least {K : Int32 → Hp → Prop} {b : Nat} {S : Tb} (F : Fcx h b S) (nb : ¬ tG S 0 0 = 112) (C : CpT h b S) (hm : (me S 0).1 ≤ 1000) (k : K (iv (me S 0).1) h) : Ca (d + 1) m_Fo_least [.ref b] h (QI K) := by
  have u := F.2.2.2.2.1
  have f4 := F.2.1.2.2.2 0 (by decide)
  refine w_Fo_least ⟨F.2.1.1, w_Fo_whole ⟨F.2.1.1, ?_⟩⟩
  rw [F.1.1.1, if_pos (show 0 < iv S.1 from (iv_lt (a := 0) (by decide) (by omega)).mpr u.1), F.2.1.2.1, F.2.1.2.2.1]
  refine ⟨rfl, by decide, ?_⟩
  rw [show (0 : Int32).toNatClampNeg = 0 by decide, f4.1, if_neg (by omega)]
  refine ⟨f4.2, ?_⟩
  rw [((C.2.2 0 u.1).resolve_left nb).1]
  have e : (jv (me S 0).1).toInt32 = iv (me S 0).1 := by
    rw [← iv_jv (by omega)]; exact Int32.toInt32_toInt64 _
  rw [e]; exact k
/-- the whole is no BITS, when sound -/
theorem root_nb {S : Tb} (W : TW S) (s : Snd_ S) : ¬ tG S 0 0 = 112 := fun q => by
  obtain ⟨p, p1, -⟩ := (s.1 0 W.2.1.1).1.1 q
  rw [W.2.2.2.1] at p1; cases p1
end CMP
