/-! a new node of the Model's -/
theorem kids_mem {S : Tb} {p k : Nat} : k ∈ kids S p ↔ k < S.1 ∧ S.2.2 k = p + 1 := by
  unfold kids; rw [List.mem_filter, List.mem_range, decide_eq_true_iff]
theorem kids_sorted (S : Tb) (p : Nat) : (kids S p).Pairwise (· < ·) := List.Pairwise.filter _ List.pairwise_lt_range
theorem kids_tB {S : Tb} {c own cs inh : Int32} {par p : Nat} : kids (tB S c own cs inh par) p = kids S p ++ if par = p + 1 then [S.1] else [] := by
  unfold kids tB
  dsimp only
  rw [List.range_succ, List.filter_append]
  congr 1
  · refine List.filter_congr fun k hk => ?_
    have := List.mem_range.mp hk
    rw [decide_eq_decide, if_neg (by omega)]
  · by_cases e : par = p + 1
    · rw [if_pos e, List.filter_cons, if_pos (by simpa using e)]; rfl
    · rw [if_neg e, List.filter_cons, if_neg (by simpa using e)]; rfl
/-- the last of a row that begins with k -/
def lst : Nat → List Nat → Nat | k, [] => k | _, x :: r => lst x r
theorem lst_mem : ∀ {k : Nat} {r : List Nat}, lst k r ∈ k :: r
  | k, [] => List.mem_cons_self ..
  | k, x :: r => List.mem_cons_of_mem _ (lst_mem (k := x) (r := r))
theorem hdI_app {ks : List Nat} {n : Nat} : ∀ {ks : List Nat}, hdI (ks ++ [n]) = match ks with | [] => iv n | k :: _ => iv k
  | [] => rfl
  | _ :: _ => rfl
/-- one more at the end of a row -/
theorem LkM.app {g g' : Hp} {n : Nat} : ∀ {r : List Nat} {k : Nat} {b : Int32}, LkM g b (k :: r) → (k :: r).Pairwise (· < ·) → (∀ x, x ∈ k :: r → x < n) → (∀ x, x ∈ k :: r → hI g' 212 x = hI g 212 x ∧ (¬ x = lst k r → hI g' 211 x = hI g 211 x)) → hI g' 211 (lst k r) = iv n → hI g' 212 n = iv (lst k r) → hI g' 211 n = -1 → LkM g' b ((k :: r) ++ [n])
  | [], k, b, L, P, hn, h, h1, h2, h3 => ⟨by rw [(h k (List.mem_cons_self ..)).1]; exact L.1, h1, h2, h3, trivial⟩
  | x :: r, k, b, L, P, hn, h, h1, h2, h3 => by
    have hlt : k < lst x r := by
      have := List.pairwise_cons.mp P
      exact this.1 _ lst_mem
    refine ⟨by rw [(h k (List.mem_cons_self ..)).1]; exact L.1, ?_, ?_⟩
    · rw [(h k (List.mem_cons_self ..)).2 (by show ¬ k = lst x r; omega)]; exact L.2.1
    · exact LkM.app L.2.2 (List.pairwise_cons.mp P).2 (fun y hy => hn y (List.mem_cons_of_mem _ hy)) (fun y hy => h y (List.mem_cons_of_mem _ hy)) h1 h2 h3
theorem TabM.new {g g2 : Hp} {S : Tb} {c own cs inh : Int32} {par : Nat} (T : TabM g S) (W : WfP S) (h90 : S.1 < 90) (hpar : par ≤ S.1) (hr : hR g2 = hR g) (hs : hS g2 = hS g) (h23 : hI g2 197 23 = iv (S.1 + 1))
    (hF : ∀ j, j < 7 → ∀ k, k < 90 → hI g2 (202 + j) k = tG (tB S c own cs inh par) k j) (hP : hI g2 209 S.1 = lkI par) (hP' : ∀ k, k < S.1 → hI g2 209 k = hI g 209 k) (hu : hI g2 210 S.1 = -1)
    (hC : ∀ p, p < S.1 → par = p + 1 → hI g2 210 p = hdI (kids S p ++ [S.1]) ∧ LkM g2 (-1) (kids S p ++ [S.1]))
    (hC' : ∀ p, p < S.1 → ¬ par = p + 1 → hI g2 210 p = hI g 210 p ∧ ∀ k, k ∈ kids S p → hI g2 211 k = hI g 211 k ∧ hI g2 212 k = hI g 212 k) : TabM g2 (tB S c own cs inh par) := by
  obtain ⟨t1, t2, t3, t4, t5, t6⟩ := T
  refine ⟨t1.same hr hs, h23, h90, hF, fun k hk => ?_, fun p hp => ?_⟩
  · show _ = lkI (if k = S.1 then par else S.2.2 k)
    by_cases e : k = S.1
    · rw [if_pos e, e]; exact hP
    · have : k < S.1 + 1 := hk
      rw [if_neg e, hP' k (by omega)]; exact t5 k (by omega)
  · rw [kids_tB]
    have hp : p < S.1 + 1 := hp
    by_cases e : p = S.1
    · have : kids S p = [] := by
        rw [List.eq_nil_iff_forall_not_mem]
        intro k hk
        obtain ⟨a, b⟩ := kids_mem.mp hk
        have := W k a
        omega
      rw [if_neg (by omega), this, e]
      exact ⟨hu, trivial⟩
    · by_cases q : par = p + 1
      · rw [if_pos q]; exact hC p (by omega) q
      · rw [if_neg q, List.append_nil]
        obtain ⟨a, b⟩ := hC' p (by omega) q
        exact ⟨by rw [a]; exact (t6 p (by omega)).1, (t6 p (by omega)).2.mono b⟩
section HANG
variable {d : Nat} {K : Hp → Prop}
theorem c_hang_80 {g : Hp} (M : ShM g) {n : Nat} (hn : n < 90) : ∀ (r : List Nat) (k : Nat) (b : Int32) (y : Option Value), LkM g b (k :: r) → (∀ x, x ∈ k :: r → x < n) → K (sI (sI g 211 (lst k r) (iv n)) 212 n (iv (lst k r))) → Wp d m_Mo_hang 80 [some (.ref 197), some (.int (iv n)), y, some (.int (iv k))] [] g (QV K)
  | [], k, b, y, L, hl, q => by
    have hk := hl k (List.mem_cons_self ..)
    have nx : hI g 211 k = -1 := L.2.1
    refine w_Mo_hang_80 ?_
    simp only [hR_sI, hS_sI, M.o, M.r21, M.s211, M.r22, M.s212, true_and]
    rw [iv_clamp (by omega), iv_clamp (by omega), nx, if_pos (by decide)]
    refine ⟨ainr_iv (by omega) (by omega), by decide, ?_⟩
    rintro _ rfl
    simp only [hR_sI, hS_sI, M.o, M.r21, M.s211, M.r22, M.s212, true_and]
    refine ⟨by decide, ainr_iv (by omega) (by omega), ?_⟩
    rintro _ rfl
    exact q
  | x :: r, k, b, y, L, hl, q => by
    have hk := hl k (List.mem_cons_self ..)
    have hx := hl x (List.mem_cons_of_mem _ (List.mem_cons_self ..))
    have nx : hI g 211 k = iv x := L.2.1
    refine w_Mo_hang_80 ?_
    simp only [hR_sI, hS_sI, M.o, M.r21, M.s211, M.r22, M.s212, true_and]
    rw [iv_clamp (by omega), iv_clamp (by omega), nx, if_neg (iv_neg (by omega))]
    refine ⟨ainr_iv (by omega) (by omega), ?_⟩
    rintro _ rfl
    exact c_hang_80 M hn r x (iv k) _ L.2.2 (fun z hz => hl z (List.mem_cons_of_mem _ hz)) q
/-- what the hanging leaves: name and case, and the row -/
theorem c_hang {g : Hp} (M : ShM g) {n p t : Nat} {kd w : Int32} {ks : List Nat} (hn : n < 90) (hp : p < n) (hkd : hI g 202 p = kd) (ht : hI g 197 28 = iv (t + 1)) (ht5 : t < 5) (hw : kd = 123 ∨ kd = 63 → hI g 216 t = w)
    (hc : hI g 210 p = hdI ks) (L : LkM g (-1) ks) (P : ks.Pairwise (· < ·)) (hl : ∀ x, x ∈ ks → x < n) (hu1 : hI g 211 n = -1) (hu2 : hI g 212 n = -1) (h7 : hI g 207 n = -1) (h8 : hI g 208 n = -1)
    (k : ∀ g2, MFr g g2 → hI g2 207 n = (if kd = 123 then w else -1) → hI g2 208 n = (if kd = 63 then w else -1) → hI g2 210 p = hdI (ks ++ [n]) → LkM g2 (-1) (ks ++ [n]) →
      (∀ a k, ¬ (a = 207 ∧ k = n) → ¬ (a = 208 ∧ k = n) → ¬ (a = 210 ∧ k = p) → ¬ (a = 211 ∧ k ∈ ks) → ¬ (a = 212 ∧ k = n) → hI g2 a k = hI g a k) → K g2) : Ca d m_Mo_hang [.ref 197, .int (iv n), .int (iv p)] g (QV K) := by
  have f56 : ∀ (g1 : Hp) (y : Option Value), ShM g1 → MFr g g1 → (∀ a k, ¬ (a = 207 ∧ k = n) → ¬ (a = 208 ∧ k = n) → hI g1 a k = hI g a k) → hI g1 207 n = (if kd = 123 then w else -1) → hI g1 208 n = (if kd = 63 then w else -1) →
      Wp d m_Mo_hang 56 [some (.ref 197), some (.int (iv n)), some (.int (iv p)), y] [] g1 (QV K) := by
    intro g1 y M1 F1 s1 e7 e8
    have cp : hI g1 210 p = hdI ks := by rw [s1 _ _ (by omega) (by omega)]; exact hc
    have u1 : hI g1 211 n = -1 := by rw [s1 _ _ (by omega) (by omega)]; exact hu1
    have u2 : hI g1 212 n = -1 := by rw [s1 _ _ (by omega) (by omega)]; exact hu2
    have L1 : LkM g1 (-1) ks := L.mono fun x _ => ⟨s1 _ _ (by omega) (by omega), s1 _ _ (by omega) (by omega)⟩
    refine w_Mo_hang_56 ?_
    simp only [hR_sI, hS_sI, M1.o, M1.r20, M1.s210, true_and]
    rw [iv_clamp (by omega), cp]
    refine ⟨ainr_iv (by omega) (by omega), ?_⟩
    match ks, hc, L1, P, hl, k with
    | [], hc, L1, P, hl, k =>
      rw [if_pos (by decide)]
      refine ⟨by decide, ?_⟩
      rintro _ rfl
      refine k _ (F1.si (by decide)) (by rw [hI_o (by omega)]; exact e7) (by rw [hI_o (by omega)]; exact e8) hI_s ⟨by rw [hI_o (by omega)]; exact u2, by rw [hI_o (by omega)]; exact u1, trivial⟩ fun a x q1 q2 q3 q4 q5 => ?_
      rw [hI_o q3]; exact s1 a x q1 q2
    | x :: r, hc, L1, P, hl, k =>
      have hx := hl x (List.mem_cons_self ..)
      have hls : lst x r < n := hl _ lst_mem
      rw [show hdI (x :: r) = iv x from rfl, if_neg (iv_neg (by omega))]
      rintro _ rfl
      refine c_hang_80 M1 hn r x (-1) _ L1 hl (k _ ((F1.si (by decide)).si (by decide)) (by rw [hI_o (by omega), hI_o (by omega)]; exact e7) (by rw [hI_o (by omega), hI_o (by omega)]; exact e8) (by rw [hI_o (by omega), hI_o (by omega)]; exact cp) ?_ fun a y q1 q2 q3 q4 q5 => ?_)
      · refine L1.app P hl (fun y hy => ⟨?_, fun q => ?_⟩) (by rw [hI_o (by omega)]; exact hI_s) hI_s (by rw [hI_o (by omega), hI_o (by omega)]; exact u1)
        · have := hl y hy
          rw [hI_o (by omega), hI_o (by omega)]
        · rw [hI_o (by omega), hI_o (by omega)]
      · rw [hI_o q5, hI_o (fun q => q4 ⟨q.1, by rw [q.2]; exact lst_mem⟩)]; exact s1 a y q1 q2
  have f28 : ∀ (g1 : Hp), ShM g1 → MFr g g1 → (∀ a k, ¬ (a = 207 ∧ k = n) → hI g1 a k = hI g a k) → hI g1 207 n = (if kd = 123 then w else -1) →
      Wp d m_Mo_hang 28 [some (.ref 197), some (.int (iv n)), some (.int (iv p)), none] [] g1 (QV K) := by
    intro g1 M1 F1 s1 e7
    refine w_Mo_hang_28 ?_
    have q2 : hI g1 202 p = kd := by rw [s1 _ _ (by omega)]; exact hkd
    have q3 : hI g1 197 28 = iv (t + 1) := by rw [s1 _ _ (by omega)]; exact ht
    simp only [hR_sI, hS_sI, M1.o, M1.r12, M1.s202, M1.r27, M1.s216, M1.r18, M1.s208, true_and, q3]
    rw [iv_clamp (by omega), q2, iv1, iv_sub (by omega), Nat.add_sub_cancel, iv_clamp (by omega), iv_clamp (by omega)]
    refine ⟨ainr_iv (by omega) (by omega), ?_⟩
    by_cases c : kd = 63
    · rw [if_pos c]
      refine ⟨ainr_iv (by omega) (by omega), by decide, ainr_iv (by omega) (by omega), ?_⟩
      rintro _ rfl
      refine f56 _ _ M1 (F1.si (by decide)) (fun a x q1 q2 => ?_) (by rw [hI_o (by omega)]; exact e7) ?_
      · rw [hI_o q2]; exact s1 a x q1
      · rw [hI_s, if_pos c, s1 _ _ (by omega)]; exact hw (Or.inr c)
    · rw [if_neg c]
      refine f56 _ _ M1 F1 (fun a x q1 q2 => s1 a x q1) e7 ?_
      rw [if_neg c, s1 _ _ (by omega)]; exact h8
  refine w_Mo_hang ?_
  simp only [hR_sI, hS_sI, M.o, M.r12, M.s202, M.r27, M.s216, M.r17, M.s207, true_and, ht]
  rw [iv_clamp (by omega), hkd, iv1, iv_sub (by omega), Nat.add_sub_cancel, iv_clamp (by omega), iv_clamp (by omega)]
  refine ⟨ainr_iv (by omega) (by omega), ?_⟩
  by_cases c : kd = 123
  · rw [if_pos c]
    refine ⟨ainr_iv (by omega) (by omega), by decide, ainr_iv (by omega) (by omega), ?_⟩
    rintro _ rfl
    refine f28 _ M ((MFr.refl g).si (by decide)) (fun a x q => hI_o q) ?_
    rw [hI_s, if_pos c]; exact hw (Or.inl c)
  · rw [if_neg c]
    refine f28 _ M (MFr.refl g) (fun a x q => rfl) ?_
    rw [if_neg c]; exact h7
end HANG
