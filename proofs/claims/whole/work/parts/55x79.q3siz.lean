section SZC
variable {d : Nat}
theorem c_mayNeg {K : Int32 → Hp → Prop} {h : Hp} {a : Nat} (hc : (hS h a).1 = 2) (k : K (if mNeg (hI h a 0) = true then 1 else 0) h) : Ca d m_No_mayBeNegative [.ref a] h (QI K) := by
  refine w_No_mayBeNegative ⟨hc, ?_⟩
  unfold mNeg at k
  by_cases a1 : hI h a 0 = 115
  · rw [if_pos a1]; rw [a1] at k; exact k
  rw [if_neg a1]
  by_cases a2 : hI h a 0 = 102
  · rw [if_pos a2]; rw [a2] at k; exact k
  rw [if_neg a2]
  by_cases a3 : hI h a 0 = 100
  · rw [if_pos a3]; rw [a3] at k; exact k
  rw [if_neg a3]
  rw [decide_eq_false a1, decide_eq_false a2, decide_eq_false a3] at k; exact k
theorem c_widen {K : Hp → Prop} {h : Hp} {a : Nat} {w kd : Int32} (hc : (hS h a).1 = 2) (hk : hI h a 0 = kd) (k : K (sL (sL (sI h a 1 w) a 11 (wLo kd w)) a 12 (wHi kd w))) : Ca (d + 1) m_No_widenTo [.ref a, .int w] h (QV K) := by
  refine w_No_widenTo ⟨hc, ?_⟩
  rintro _ rfl
  have k0 : hI (sI h a 1 w) a 0 = kd := by rw [hI_o (by omega)]; exact hk
  have k1 : hI (sI h a 1 w) a 1 = w := hI_s
  rw [k0, k1]
  unfold wLo wHi wLo bitsOf at k
  by_cases c : kd = 112
  · rw [if_pos c] at k
    rw [if_pos c]
    rintro _ rfl
    refine c_mayNeg hc ?_
    rw [k0]
    by_cases e : mNeg kd = true
    · rw [if_pos e, if_pos e] at k
      rw [if_pos e, if_neg (by decide)]
      refine ⟨hc, ?_⟩
      rintro _ rfl _ rfl
      rw [hL_s]; exact k
    · rw [if_neg e, if_neg e] at k
      rw [if_neg e, if_pos rfl]
      refine ⟨hc, ?_⟩
      rintro _ rfl _ rfl
      exact k
  · rw [if_neg c] at k
    rw [if_neg c]
    rintro _ rfl
    refine c_mayNeg hc ?_
    rw [k0]
    by_cases e : mNeg kd = true
    · rw [if_pos e, if_pos e] at k
      rw [if_pos e, if_neg (by decide)]
      refine ⟨hc, ?_⟩
      rintro _ rfl _ rfl
      rw [hL_s]; exact k
    · rw [if_neg e, if_neg e] at k
      rw [if_neg e, if_pos rfl]
      refine ⟨hc, ?_⟩
      rintro _ rfl _ rfl
      exact k
theorem sL_id {h : Hp} {a j : Nat} {v : Int64} (e : hL h a j = v) : sL h a j v = h := by
  obtain ⟨f, g, r⟩ := h
  show (f, up2 g a j v, r) = (f, g, r)
  congr 2
  funext b k
  unfold up2
  by_cases c : b = a ∧ k = j
  · rw [if_pos c, c.1, c.2]; exact e.symm
  · rw [if_neg c]
theorem c_limit {K : Hp → Prop} {h : Hp} {a : Nat} {s x : Int32} {lo hi : Int64} (hc : (hS h a).1 = 2) (h11 : hL h a 11 = lo) (h12 : hL h a 12 = hi) (k : K (sL (sL h a 11 (liLo s x lo)) a 12 (liHi s x hi))) : Ca d m_No_limitTo [.ref a, .int s, .int x] h (QV K) := by
  have h32 : ∀ h', (hS h' a).1 = 2 → h' = sL h a 11 (liLo s x lo) → Wp d m_No_limitTo 32 [some (.ref a), some (.int s), some (.int x)] [] h' (QV K) := by
    rintro h' hc' rfl
    have e12 : hL (sL h a 11 (liLo s x lo)) a 12 = hi := by rw [hL_o (by omega)]; exact h12
    refine w_No_limitTo_32 ?_
    unfold liHi at k
    by_cases c : s = 62
    · rw [if_pos c, sL_id e12] at k
      rw [if_pos c]; exact k
    · rw [if_neg c] at k
      rw [if_neg c, e12]
      refine ⟨hc', ?_⟩
      by_cases c2 : s = 60
      · rw [if_pos c2] at k
        rw [if_pos c2]
        rintro _ rfl; exact k
      · rw [if_neg c2] at k
        rw [if_neg c2]
        rintro _ rfl; exact k
  refine w_No_limitTo ?_
  by_cases c : s = 60
  · rw [if_pos c]
    refine h32 h hc ?_
    unfold liLo; rw [if_pos c, sL_id h11]
  · rw [if_neg c, h11]
    refine ⟨hc, ?_⟩
    by_cases c2 : s = 62
    · rw [if_pos c2]
      rintro _ rfl
      exact h32 _ hc (by unfold liLo; rw [if_neg c, if_pos c2])
    · rw [if_neg c2]
      rintro _ rfl
      exact h32 _ hc (by unfold liLo; rw [if_neg c, if_neg c2])
theorem ne_in {b n k : Nat} {O : List Nat} (hn : n ∈ O) (hO : ¬ k ∈ O) : ¬ b + 2 + k = b + 2 + n := fun q => hO (by rw [show k = n by omega]; exact hn)
/-- numbers of a node that stands open -/
theorem ClT.nI {h : Hp} {b n j : Nat} {S : Tb} {O E : List Nat} {v : Int32} (C : ClT h b S O E) (hn : n ∈ O) (hj : j = 1 ∨ j = 4) : ClT (sI h (b + 2 + n) j v) b S O E :=
  C.mono rfl rfl (hI_ne (by omega)) (fun _ _ => rfl) (fun k hk i hi => by rw [hI_o (by omega)]) (fun _ _ _ => rfl) fun k hk hO => (C.2.2.1 k hk hO).mono (fun i _ => hI_o (fun q => ne_in hn hO q.1)) rfl fun _ _ => rfl
theorem ClT.nL {h : Hp} {b n j : Nat} {S : Tb} {O E : List Nat} {v : Int64} (C : ClT h b S O E) (hn : n ∈ O) : ClT (sL h (b + 2 + n) j v) b S O E :=
  C.mono rfl rfl rfl (fun _ _ => rfl) (fun k hk i hi => rfl) (fun _ _ _ => rfl) fun k hk hO => (C.2.2.1 k hk hO).mono (fun i _ => rfl) (hL_ne (ne_in hn hO)) fun _ _ => rfl
theorem ClT.tF {h : Hp} {b n j : Nat} {S : Tb} {O E : List Nat} {v : Int32} (C : ClT h b S O E) (hn : n ∈ O) (hj : 0 < j ∧ j < 5) : ClT h b (tF S n j v) O E :=
  C.mono rfl rfl rfl (fun _ _ => rfl) (fun k hk i hi => rfl) (fun k i hi => by rw [tG_tF, if_neg (by omega)]) fun k hk hO => (C.2.2.1 k hk hO).mono (fun i _ => rfl) rfl fun i _ => by
    rw [tG_tF, if_neg (fun q => hO (by rw [q.1]; exact hn))]
theorem ClT.fresh {h h' : Hp} {b : Nat} {S : Tb} {O E : List Nat} {c own cs inh : Int32} {par : Nat} (C : ClT h b S O E) (W : WfP S) (hpar : par ≤ S.1) (h90 : S.1 < 90) (N : NdN h' (b + 2 + S.1) c (rfN b par) inh) (h1 : hI h' b 1 = iv (S.1 + 1)) (o : ∀ a, ¬ a = b → ¬ a = b + 2 + S.1 → Sm h h' a) :
    ClT h' b (tB S c own cs inh par) (S.1 :: O) (S.1 :: E) := by
  obtain ⟨⟨c1, c2⟩, c3, c4, c5, c6, c7⟩ := C
  have old : ∀ k, k < S.1 → Sm h h' (b + 2 + k) := fun k hk => o _ (by omega) (by omega)
  have tg : ∀ k j, k < S.1 → tG (tB S c own cs inh par) k j = tG S k j := fun k j hk => by rw [tG_tB]; simp [show ¬ k = S.1 by omega]
  have pr : ∀ k, k < S.1 → (tB S c own cs inh par).2.2 k = S.2.2 k := fun k hk => if_neg (by omega)
  obtain ⟨⟨n1, n2, n3, n4, n5⟩, ⟨r1, r2, r3, r4, r5, r6⟩, l1, l2, l3, l4, l5⟩ := N
  refine ⟨⟨h1, h90⟩, fun k hk => ?_, fun k hk hO => ?_, fun q hq => ?_, fun k hk => ?_, fun k hk hE q e e2 => ?_⟩
  · have hk : k < S.1 + 1 := hk
    by_cases e : k = S.1
    · subst e
      exact ⟨by rw [tG_tB]; simp [n1], by rw [tG_tB]; simp [n3], by rw [r2]; show _ = rfN b (if S.1 = S.1 then par else _); rw [if_pos rfl]⟩
    · have hk' : k < S.1 := by omega
      obtain ⟨a1, a2, a3⟩ := c3 k hk'
      exact ⟨by rw [(old k hk').1, tg k 0 hk']; exact a1, by rw [(old k hk').1, tg k 7 hk']; exact a2, by rw [(old k hk').2.2.1, pr k hk']; exact a3⟩
  · have hk : k < S.1 + 1 := hk
    have hk' : k < S.1 := by
      have : ¬ k = S.1 := fun e => hO (by rw [e]; exact List.mem_cons_self ..)
      omega
    exact (c4 k hk' fun z => hO (List.mem_cons_of_mem _ z)).mono (fun j _ => by rw [(old k hk').1]) (old k hk').2.1 fun j _ => tg k j hk'
  · have hq : q < S.1 + 1 := hq
    have ks : kidsD (tB S c own cs inh par) (S.1 :: O) q = if q = S.1 then [] else kidsD S O q := by
      unfold kidsD
      rw [show (tB S c own cs inh par).1 = S.1 + 1 from rfl, List.range_succ, List.filter_append]
      have : [S.1].filter (fun k => decide ((tB S c own cs inh par).2.2 k = q + 1) && !(S.1 :: O).contains k) = [] := by
        rw [List.filter_cons, if_neg (by simp)]; rfl
      rw [this, List.append_nil]
      by_cases e : q = S.1
      · rw [if_pos e, List.filter_eq_nil_iff]
        intro k hk
        have hk := List.mem_range.mp hk
        rw [pr k hk, decide_eq_false (by have := W k hk; omega), Bool.false_and]; decide
      · rw [if_neg e]
        refine List.filter_congr fun k hk => ?_
        have hk := List.mem_range.mp hk
        have : (S.1 :: O).contains k = O.contains k := by rw [List.contains_cons, beq_false_of_ne (by omega)]; rfl
        rw [pr k hk, this]
    rw [ks]
    by_cases e : q = S.1
    · rw [if_pos e, e]; exact ⟨r5, r6, trivial⟩
    · rw [if_neg e]
      have hq' : q < S.1 := by omega
      obtain ⟨a1, a2, a3⟩ := c5 q hq'
      exact ⟨by rw [(old q hq').2.2.1]; exact a1, by rw [(old q hq').2.2.1]; exact a2, a3.mono fun k hk => (old k (kidsD_mem.mp hk).1).2.2.1⟩
  · rcases List.mem_cons.mp hk with rfl | hk
    · exact ⟨Nat.lt_succ_self _, r3, r4⟩
    · obtain ⟨a1, a2, a3⟩ := c6 k hk
      exact ⟨Nat.lt_succ_of_lt a1, by rw [(old k a1).2.2.1]; exact a2, by rw [(old k a1).2.2.1]; exact a3⟩
  · have hk : k < S.1 + 1 := hk
    have hk' : k < S.1 := by
      have : ¬ k = S.1 := fun z => hE (by rw [z]; exact List.mem_cons_self ..)
      omega
    rw [pr k hk'] at e
    have hq : q < S.1 := by have := W k hk'; omega
    rw [tg q 0 hq] at e2
    rw [(old k hk').1, tg k 6 hk']
    exact c7 k hk' (fun z => hE (List.mem_cons_of_mem _ z)) q e e2
end SZC
