/-! what holds between the calls: the class's part and the Model's part of one heap -/
theorem hI_s {h : Hp} {a j : Nat} {v : Int32} : hI (sI h a j v) a j = v := by rw [hI_sI, if_pos ⟨rfl, rfl⟩]
theorem hI_o {h : Hp} {a j b k : Nat} {v : Int32} (hb : ¬ (b = a ∧ k = j)) : hI (sI h a j v) b k = hI h b k := by rw [hI_sI, if_neg hb]
theorem hL_s {h : Hp} {a j : Nat} {v : Int64} : hL (sL h a j v) a j = v := by rw [hL_sL, if_pos ⟨rfl, rfl⟩]
theorem hL_o {h : Hp} {a j b k : Nat} {v : Int64} (hb : ¬ (b = a ∧ k = j)) : hL (sL h a j v) b k = hL h b k := by rw [hL_sL, if_neg hb]
theorem hR_s {h : Hp} {a j : Nat} {v : Nat} : hR (sR h a j v) a j = v := by rw [hR_sR, if_pos ⟨rfl, rfl⟩]
theorem hR_o {h : Hp} {a j b k : Nat} {v : Nat} (hb : ¬ (b = a ∧ k = j)) : hR (sR h a j v) b k = hR h b k := by rw [hR_sR, if_neg hb]
theorem hI_ne {h : Hp} {a j b : Nat} {v : Int32} (hb : ¬ b = a) : hI (sI h a j v) b = hI h b := Sm.sI (j := j) (v := v) hb |>.1
theorem hL_ne {h : Hp} {a j b : Nat} {v : Int64} (hb : ¬ b = a) : hL (sL h a j v) b = hL h b := (Sm.sL (j := j) (v := v) hb).2.1
theorem hR_ne {h : Hp} {a j b : Nat} {v : Nat} (hb : ¬ b = a) : hR (sR h a j v) b = hR h b := (Sm.sR (j := j) (v := v) hb).2.2.1
theorem hI_nwne {h : Hp} {c l n b : Nat} (hb : ¬ b = hN h) : hI (hNew h c l n) b = hI h b := (Sm.nw hb).1
theorem hL_nwne {h : Hp} {c l n b : Nat} (hb : ¬ b = hN h) : hL (hNew h c l n) b = hL h b := (Sm.nw hb).2.1
theorem hR_nwne {h : Hp} {c l n b : Nat} (hb : ¬ b = hN h) : hR (hNew h c l n) b = hR h b := (Sm.nw hb).2.2.1
/-- the low part has the same shape -/
def Lo (h h' : Hp) : Prop := ∀ c, c < 231 → hR h' c = hR h c ∧ hS h' c = hS h c
theorem Lo.refl (h : Hp) : Lo h h := fun _ _ => ⟨rfl, rfl⟩
theorem Lo.trans {h h' h'' : Hp} (a : Lo h h') (b : Lo h' h'') : Lo h h'' := fun c hc => ⟨(b c hc).1.trans (a c hc).1, (b c hc).2.trans (a c hc).2⟩
theorem Lo.sI {h : Hp} {a j : Nat} {v : Int32} : Lo h (sI h a j v) := fun _ _ => ⟨rfl, rfl⟩
theorem Lo.sL {h : Hp} {a j : Nat} {v : Int64} : Lo h (sL h a j v) := fun _ _ => ⟨rfl, rfl⟩
theorem Lo.sD {h : Hp} {a j : Nat} {v : UInt64} : Lo h (sD h a j v) := fun _ _ => ⟨rfl, rfl⟩
theorem Lo.cI {h : Hp} {a i b j n : Nat} : Lo h (cI h a i b j n) := fun _ _ => ⟨rfl, rfl⟩
theorem Lo.cL {h : Hp} {a i b j n : Nat} : Lo h (cL h a i b j n) := fun _ _ => ⟨rfl, rfl⟩
theorem Lo.nw {h : Hp} {c l n : Nat} (hn : 231 ≤ hN h) : Lo h (hNew h c l n) := fun b hb => ⟨hR_nwne (by omega), by rw [hS_nw, if_neg (by omega)]⟩
def Txt (h : Hp) (t : Nat) : Prop := Byt h 3 4 t 90 ∧ hI h 197 2 = iv t ∧ ∀ i, i < t → hI h 4 i &&& 255 = hI h 198 i
def Msg (h : Hp) (t : Nat) : Prop := Byt h 5 6 t 120 ∧ hI h 197 7 = iv t ∧ ∀ i, i < t → hI h 6 i &&& 255 = hI h 200 i
def Vls (h : Hp) (t : Nat) : Prop := Lng h 7 8 t 160 ∧ hI h 197 9 = iv t ∧ ∀ i, i < t → hL h 8 i = hL h 201 i
def Flg (h : Hp) : Prop := (hI h 2 7 = hI h 197 5 ∧ hI h 2 8 = hI h 197 10 ∧ hI h 2 9 = hI h 197 11) ∧ (hI h 2 7 = 0 ∨ hI h 2 7 = 1)
def Shp (h : Hp) (db cb : Nat) : Prop := ShF h db cb ∧ ShM h ∧ hS h 229 = (21, 1) ∧ hS h 230 = (23, 1)
theorem Byt.lo {h h' : Hp} {a r n cap : Nat} (B : Byt h a r n cap) (L : Lo h h') (ha : a < 231) (hr : r < 231) (e : hI h' a 1 = hI h a 1) : Byt h' a r n cap := by
  obtain ⟨b1, b2, b3, b4, b5, b6, b7, b8⟩ := B
  exact ⟨by rw [(L a ha).2]; exact b1, by rw [(L a ha).1]; exact b2, by rw [(L r hr).2]; exact b3, b4, by rw [e]; exact b5, b6, b7, b8⟩
theorem Lng.lo {h h' : Hp} {a r n cap : Nat} (B : Lng h a r n cap) (L : Lo h h') (ha : a < 231) (hr : r < 231) (e : hI h' a 1 = hI h a 1) : Lng h' a r n cap := by
  obtain ⟨b1, b2, b3, b4, b5, b6, b7, b8⟩ := B
  exact ⟨by rw [(L a ha).2]; exact b1, by rw [(L a ha).1]; exact b2, by rw [(L r hr).2]; exact b3, b4, by rw [e]; exact b5, b6, b7, b8⟩
/-- the same row, of another length -/
theorem Byt.len {h h' : Hp} {a r n n' cap : Nat} (B : Byt h a r n cap) (L : Lo h h') (ha : a < 231) (hr : r < 231) (e : hI h' a 1 = iv n') (hn : n' ≤ cap) : Byt h' a r n' cap := by
  obtain ⟨b1, b2, b3, b4, b5, b6, b7, b8⟩ := B
  exact ⟨by rw [(L a ha).2]; exact b1, by rw [(L a ha).1]; exact b2, by rw [(L r hr).2]; exact b3, b4, e, hn, b7, b8⟩
theorem Lng.len {h h' : Hp} {a r n n' cap : Nat} (B : Lng h a r n cap) (L : Lo h h') (ha : a < 231) (hr : r < 231) (e : hI h' a 1 = iv n') (hn : n' ≤ cap) : Lng h' a r n' cap := by
  obtain ⟨b1, b2, b3, b4, b5, b6, b7, b8⟩ := B
  exact ⟨by rw [(L a ha).2]; exact b1, by rw [(L a ha).1]; exact b2, by rw [(L r hr).2]; exact b3, b4, e, hn, b7, b8⟩
theorem Txt.mono {h h' : Hp} {t : Nat} (T : Txt h t) (L : Lo h h') (e1 : hI h' 3 1 = hI h 3 1) (e2 : hI h' 4 = hI h 4) (e3 : hI h' 197 2 = hI h 197 2) (e4 : hI h' 198 = hI h 198) : Txt h' t :=
  ⟨T.1.lo L (by decide) (by decide) e1, by rw [e3]; exact T.2.1, fun i hi => by rw [e2, e4]; exact T.2.2 i hi⟩
theorem Msg.mono {h h' : Hp} {t : Nat} (T : Msg h t) (L : Lo h h') (e1 : hI h' 5 1 = hI h 5 1) (e2 : hI h' 6 = hI h 6) (e3 : hI h' 197 7 = hI h 197 7) (e4 : hI h' 200 = hI h 200) : Msg h' t :=
  ⟨T.1.lo L (by decide) (by decide) e1, by rw [e3]; exact T.2.1, fun i hi => by rw [e2, e4]; exact T.2.2 i hi⟩
theorem Vls.mono {h h' : Hp} {t : Nat} (T : Vls h t) (L : Lo h h') (e1 : hI h' 7 1 = hI h 7 1) (e2 : hL h' 8 = hL h 8) (e3 : hI h' 197 9 = hI h 197 9) (e4 : hL h' 201 = hL h 201) : Vls h' t :=
  ⟨T.1.lo L (by decide) (by decide) e1, by rw [e3]; exact T.2.1, fun i hi => by rw [e2, e4]; exact T.2.2 i hi⟩
theorem Flg.mono {h h' : Hp} (F : Flg h) (e1 : hI h' 2 = hI h 2) (e2 : hI h' 197 5 = hI h 197 5) (e3 : hI h' 197 10 = hI h 197 10) (e4 : hI h' 197 11 = hI h 197 11) : Flg h' := by
  unfold Flg; rw [e1, e2, e3, e4]; exact F
theorem Fmt.lo {h h' : Hp} {b : Nat} (F : Fmt h b) (L : Lo h h') (hb : b + 92 ≤ 231) : Fmt h' b := by
  obtain ⟨f1, f2, f3, f4⟩ := F
  refine ⟨by rw [(L b (by omega)).2]; exact f1, by rw [(L b (by omega)).1]; exact f2, by rw [(L (b + 1) (by omega)).2]; exact f3, fun k hk => ?_⟩
  rw [(L (b + 1) (by omega)).1, (L (b + 2 + k) (by omega)).2]
  exact f4 k hk
theorem Shp.lo {h h' : Hp} {db cb : Nat} (S : Shp h db cb) (L : Lo h h') : Shp h' db cb := by
  obtain ⟨⟨s1, s2, s3, s4⟩, s5, s6, s7⟩ := S
  refine ⟨⟨by rw [(L 2 (by decide)).2]; exact s1, by rw [(L 2 (by decide)).1]; exact s2, ⟨s3.1.lo L (by omega), s3.2.lo L (by omega)⟩, s4⟩, s5.mono fun c _ hc => L c (by omega), by rw [(L 229 (by decide)).2]; exact s6, by rw [(L 230 (by decide)).2]; exact s7⟩
