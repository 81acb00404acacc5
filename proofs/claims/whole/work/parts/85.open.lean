/-- the heap at the law's entry, in my interpreter's terms -/
def h00 (L : Nat) (xs : Nat → Int32) : Hp := (fun a j => if a = 1 then xs j else 0, fun _ _ => 0, fun _ _ => 0, fun _ _ => 0, fun a => if a = 1 then (20, L) else (99, 0), 2, 0)
theorem Rel_0 {w : Wd} : Rel w (h00 (wL w) (wX w)) (wS w).heap := by
  refine ⟨⟨rfl, Nat.le_refl 2, (by show 2 ≤ 601000; decide), (by show 0 ≤ 7293000; decide)⟩, fun q _ => rfl, fun a a1 a2 => ?_, ?_, fun a a1 _ => ?_, ⟨rfl, fun j _ => rfl⟩, fun a ha => ?_⟩
  · have : hN (h00 (wL w) (wX w)) = 2 := rfl
    omega
  · show ssum _ _ = 0
    unfold ssum
    rw [List.drop_of_length_le (by show _ ≤ (wS w).heap.size; simp)]; rfl
  · show (if a = 1 then (20, wL w) else (99, 0)).1 = 99
    rw [if_neg a1]
  · by_cases e : a = 1
    · subst e; have : (20 : Nat) = 22 := ha; omega
    · have : (hS (h00 (wL w) (wX w)) a).1 = 99 := by show (if a = 1 then (20, wL w) else (99, 0)).1 = 99; rw [if_neg e]
      rw [this] at ha; exact absurd ha (by decide)
theorem whole_open (oF : ∀ d, OpF d) (oC : ∀ d, OpC d) (oR : ∀ d, OpR d) (oW : ∀ d, OpW d) (oS : ∀ d, OpS d) (oD : ∀ d, OpD d) {p : Program} {e : Env} {s : State} {m : MethodId} {below : List Frame} {meth : Method} {c : Code} (l : Launch) (hfl : l.flags = flags0) {b L : Nat} {xs : Nat → Int32} (hL : L ≤ 2048) (hex : c.exceptionTable.toList = []) (C0 : lw_At p s m meth c b L xs) : W p l e room_1 s m #[Value.ref b] below meth c s.heap [] 0 0 (lw_Z below #[Value.ref b] s) (entryFrame m ([Value.ref b] : List Value).toArray 9) := by
  obtain ⟨w, ⟨w1, w2, w3, w4⟩, G⟩ := Gd_of hfl hL C0
  obtain ⟨hx, hb, hr, hml, hown, hts, hX, hbl, hlocks, hgv⟩ := id C0
  subst w1 w2 w3 w4
  obtain ⟨f, r, h', hev, v, rfl, rfl⟩ := law_all (d := 0) (oF 0) (oC 0) (oR 0) (oW 0) (oS 0) (oD 0) (K := fun v _ => v = 1) (fun _ => rfl) hL (h := h00 (wL w) (wX w)) rfl rfl rfl
  have hsn := ev_sound G _ _ _ _ _ _ _ _ _ hev
  intro T hT X
  have hC : Cx w p e room_1 (wS w) m meth c m_La_law 41 (h00 (wL w) (wX w)) := by
    exact ⟨⟨hx, hb, hr, hml⟩, ⟨hown, (fun hz => by cases hz), hlocks, by rw [hex]; rfl⟩, ⟨State.WarmedH.refl _, Rel_0⟩, ⟨by decide, by decide, (by show 601000 - 2 ≤ 601024; decide), (by show 7293000 - 0 ≤ 7293034; decide)⟩⟩
  obtain ⟨t, a1, a2⟩ := hsn p e room_1 (wS w) m #[Value.ref (wb w)] below meth c (h00 (wL w) (wX w)) (wS w).heap [] 0 0 _ (Or.inl rfl) hC Rel_0 (fun q hq => by cases hq) (entry_LR w (m' := m_La_law) (as := [.ref 1]) (leb rfl)) T hT X
  obtain ⟨t1, t2, t3, t4, Lc_, t5, t6⟩ := a2
  refine ⟨t, ?_, .returned (some (.int 1)), t1, t2, rfl, ⟨_, rfl⟩, t4, t5.weaken (fun y hy hlt => ?_) (by show 601000 - 2 ≤ 601024; decide) (by show 7293000 - 0 ≤ 7293034; decide)⟩
  · have e1 : entryFrame m ([Value.ref (wb w)] : List Value).toArray 9 = F0 m 0 ((lg_sl (([.ref 1] : List Value).map (cv w)) ++ List.replicate (mL m_La_law - (lg_sl (([.ref 1] : List Value).map (cv w))).length) Slot.unset).toArray) [] := lg_entry_eq m [Value.ref (wb w)] 9
    rw [e1]; exact a1
  · have hb1 : (wS w).heap.size ≤ y.base := t6 y hy
    have hs1 : y.base < (wS w).heap.size := hlt
    exact absurd hs1 (Nat.not_lt.mpr hb1)
