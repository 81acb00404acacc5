section PS
variable {p : Program} {l : Launch} {e : Env} {R : Room} {s : State} {mid : MethodId} {args : Array Value} {below : List Frame} {meth : Method} {c : Code} {H : Heap} {locs : List Loc} {cells slots : Nat} {Q : State → Prop}
variable {w : Wd} {cc : ByteArray} {nL pc n : Nat} {lc : Lc} {st : List Value} {ls : Array Slot} {X : Nx}
/-- what is to be shown behind a step -/
def Kp (p : Program) (l : Launch) (e : Env) (R : Room) (s : State) (mid : MethodId) (args : Array Value) (below : List Frame) (meth : Method) (c : Code) (H : Heap) (locs : List Loc) (cells slots : Nat) (Q : State → Prop) (w : Wd) (nL : Nat) (X : Nx) : Prop :=
  ∀ ls' : Array Slot, LR w nL X.2.1 ls' → W p l e R s mid args below meth c H locs cells slots Q (F0 mid X.1 ls' (X.2.2.map (cv w)))

theorem pp_iadd  (hx : p.tables.exec = Jvm.exec) (hb : c.code = cc) (hL : LR w nL lc ls) (K : Kp p l e R s mid args below meth c H locs cells slots Q w nL X) (hd : decode cc pc = .ok (.iadd, n)) (h : pS (.iadd) n pc lc st = some X) : W p l e R s mid args below meth c H locs cells slots Q (F0 mid pc ls (st.map (cv w))) := by
  unfold pS at h; dsimp only at h; split at h
  · rename_i hn; subst hn; unfold oII at h; split at h
    · injection h with h; subst h; exact lv_iadd hx hb hd (K ls hL)
    · cases h
  · cases h
theorem pp_isub  (hx : p.tables.exec = Jvm.exec) (hb : c.code = cc) (hL : LR w nL lc ls) (K : Kp p l e R s mid args below meth c H locs cells slots Q w nL X) (hd : decode cc pc = .ok (.isub, n)) (h : pS (.isub) n pc lc st = some X) : W p l e R s mid args below meth c H locs cells slots Q (F0 mid pc ls (st.map (cv w))) := by
  unfold pS at h; dsimp only at h; split at h
  · rename_i hn; subst hn; unfold oII at h; split at h
    · injection h with h; subst h; exact lv_isub hx hb hd (K ls hL)
    · cases h
  · cases h
theorem pp_imul  (hx : p.tables.exec = Jvm.exec) (hb : c.code = cc) (hL : LR w nL lc ls) (K : Kp p l e R s mid args below meth c H locs cells slots Q w nL X) (hd : decode cc pc = .ok (.imul, n)) (h : pS (.imul) n pc lc st = some X) : W p l e R s mid args below meth c H locs cells slots Q (F0 mid pc ls (st.map (cv w))) := by
  unfold pS at h; dsimp only at h; split at h
  · rename_i hn; subst hn; unfold oII at h; split at h
    · injection h with h; subst h; exact lv_imul hx hb hd (K ls hL)
    · cases h
  · cases h
theorem pp_iand  (hx : p.tables.exec = Jvm.exec) (hb : c.code = cc) (hL : LR w nL lc ls) (K : Kp p l e R s mid args below meth c H locs cells slots Q w nL X) (hd : decode cc pc = .ok (.iand, n)) (h : pS (.iand) n pc lc st = some X) : W p l e R s mid args below meth c H locs cells slots Q (F0 mid pc ls (st.map (cv w))) := by
  unfold pS at h; dsimp only at h; split at h
  · rename_i hn; subst hn; unfold oII at h; split at h
    · injection h with h; subst h; exact lv_iand hx hb hd (K ls hL)
    · cases h
  · cases h
theorem pp_ior  (hx : p.tables.exec = Jvm.exec) (hb : c.code = cc) (hL : LR w nL lc ls) (K : Kp p l e R s mid args below meth c H locs cells slots Q w nL X) (hd : decode cc pc = .ok (.ior, n)) (h : pS (.ior) n pc lc st = some X) : W p l e R s mid args below meth c H locs cells slots Q (F0 mid pc ls (st.map (cv w))) := by
  unfold pS at h; dsimp only at h; split at h
  · rename_i hn; subst hn; unfold oII at h; split at h
    · injection h with h; subst h; exact lv_ior hx hb hd (K ls hL)
    · cases h
  · cases h
theorem pp_ishl  (hx : p.tables.exec = Jvm.exec) (hb : c.code = cc) (hL : LR w nL lc ls) (K : Kp p l e R s mid args below meth c H locs cells slots Q w nL X) (hd : decode cc pc = .ok (.ishl, n)) (h : pS (.ishl) n pc lc st = some X) : W p l e R s mid args below meth c H locs cells slots Q (F0 mid pc ls (st.map (cv w))) := by
  unfold pS at h; dsimp only at h; split at h
  · rename_i hn; subst hn; unfold oII at h; split at h
    · injection h with h; subst h; exact lv_ishl hx hb hd (K ls hL)
    · cases h
  · cases h
theorem pp_ishr  (hx : p.tables.exec = Jvm.exec) (hb : c.code = cc) (hL : LR w nL lc ls) (K : Kp p l e R s mid args below meth c H locs cells slots Q w nL X) (hd : decode cc pc = .ok (.ishr, n)) (h : pS (.ishr) n pc lc st = some X) : W p l e R s mid args below meth c H locs cells slots Q (F0 mid pc ls (st.map (cv w))) := by
  unfold pS at h; dsimp only at h; split at h
  · rename_i hn; subst hn; unfold oII at h; split at h
    · injection h with h; subst h; exact lv_ishr hx hb hd (K ls hL)
    · cases h
  · cases h
theorem pp_ladd  (hx : p.tables.exec = Jvm.exec) (hb : c.code = cc) (hL : LR w nL lc ls) (K : Kp p l e R s mid args below meth c H locs cells slots Q w nL X) (hd : decode cc pc = .ok (.ladd, n)) (h : pS (.ladd) n pc lc st = some X) : W p l e R s mid args below meth c H locs cells slots Q (F0 mid pc ls (st.map (cv w))) := by
  unfold pS at h; dsimp only at h; split at h
  · rename_i hn; subst hn; unfold oLL at h; split at h
    · injection h with h; subst h; exact lv_ladd hx hb hd (K ls hL)
    · cases h
  · cases h
theorem pp_lsub  (hx : p.tables.exec = Jvm.exec) (hb : c.code = cc) (hL : LR w nL lc ls) (K : Kp p l e R s mid args below meth c H locs cells slots Q w nL X) (hd : decode cc pc = .ok (.lsub, n)) (h : pS (.lsub) n pc lc st = some X) : W p l e R s mid args below meth c H locs cells slots Q (F0 mid pc ls (st.map (cv w))) := by
  unfold pS at h; dsimp only at h; split at h
  · rename_i hn; subst hn; unfold oLL at h; split at h
    · injection h with h; subst h; exact lv_lsub hx hb hd (K ls hL)
    · cases h
  · cases h
theorem pp_lmul  (hx : p.tables.exec = Jvm.exec) (hb : c.code = cc) (hL : LR w nL lc ls) (K : Kp p l e R s mid args below meth c H locs cells slots Q w nL X) (hd : decode cc pc = .ok (.lmul, n)) (h : pS (.lmul) n pc lc st = some X) : W p l e R s mid args below meth c H locs cells slots Q (F0 mid pc ls (st.map (cv w))) := by
  unfold pS at h; dsimp only at h; split at h
  · rename_i hn; subst hn; unfold oLL at h; split at h
    · injection h with h; subst h; exact lv_lmul hx hb hd (K ls hL)
    · cases h
  · cases h
theorem pp_land  (hx : p.tables.exec = Jvm.exec) (hb : c.code = cc) (hL : LR w nL lc ls) (K : Kp p l e R s mid args below meth c H locs cells slots Q w nL X) (hd : decode cc pc = .ok (.land, n)) (h : pS (.land) n pc lc st = some X) : W p l e R s mid args below meth c H locs cells slots Q (F0 mid pc ls (st.map (cv w))) := by
  unfold pS at h; dsimp only at h; split at h
  · rename_i hn; subst hn; unfold oLL at h; split at h
    · injection h with h; subst h; exact lv_land hx hb hd (K ls hL)
    · cases h
  · cases h
theorem pp_lor  (hx : p.tables.exec = Jvm.exec) (hb : c.code = cc) (hL : LR w nL lc ls) (K : Kp p l e R s mid args below meth c H locs cells slots Q w nL X) (hd : decode cc pc = .ok (.lor, n)) (h : pS (.lor) n pc lc st = some X) : W p l e R s mid args below meth c H locs cells slots Q (F0 mid pc ls (st.map (cv w))) := by
  unfold pS at h; dsimp only at h; split at h
  · rename_i hn; subst hn; unfold oLL at h; split at h
    · injection h with h; subst h; exact lv_lor hx hb hd (K ls hL)
    · cases h
  · cases h
theorem pp_lxor  (hx : p.tables.exec = Jvm.exec) (hb : c.code = cc) (hL : LR w nL lc ls) (K : Kp p l e R s mid args below meth c H locs cells slots Q w nL X) (hd : decode cc pc = .ok (.lxor, n)) (h : pS (.lxor) n pc lc st = some X) : W p l e R s mid args below meth c H locs cells slots Q (F0 mid pc ls (st.map (cv w))) := by
  unfold pS at h; dsimp only at h; split at h
  · rename_i hn; subst hn; unfold oLL at h; split at h
    · injection h with h; subst h; exact lv_lxor hx hb hd (K ls hL)
    · cases h
  · cases h
theorem pp_lshl  (hx : p.tables.exec = Jvm.exec) (hb : c.code = cc) (hL : LR w nL lc ls) (K : Kp p l e R s mid args below meth c H locs cells slots Q w nL X) (hd : decode cc pc = .ok (.lshl, n)) (h : pS (.lshl) n pc lc st = some X) : W p l e R s mid args below meth c H locs cells slots Q (F0 mid pc ls (st.map (cv w))) := by
  unfold pS at h; dsimp only at h; split at h
  · rename_i hn; subst hn; unfold oLI at h; split at h
    · injection h with h; subst h; exact lv_lshl hx hb hd rfl (K ls hL)
    · cases h
  · cases h
theorem pp_lshr  (hx : p.tables.exec = Jvm.exec) (hb : c.code = cc) (hL : LR w nL lc ls) (K : Kp p l e R s mid args below meth c H locs cells slots Q w nL X) (hd : decode cc pc = .ok (.lshr, n)) (h : pS (.lshr) n pc lc st = some X) : W p l e R s mid args below meth c H locs cells slots Q (F0 mid pc ls (st.map (cv w))) := by
  unfold pS at h; dsimp only at h; split at h
  · rename_i hn; subst hn; unfold oLI at h; split at h
    · injection h with h; subst h; exact lv_lshr hx hb hd rfl (K ls hL)
    · cases h
  · cases h
theorem pp_lushr  (hx : p.tables.exec = Jvm.exec) (hb : c.code = cc) (hL : LR w nL lc ls) (K : Kp p l e R s mid args below meth c H locs cells slots Q w nL X) (hd : decode cc pc = .ok (.lushr, n)) (h : pS (.lushr) n pc lc st = some X) : W p l e R s mid args below meth c H locs cells slots Q (F0 mid pc ls (st.map (cv w))) := by
  unfold pS at h; dsimp only at h; split at h
  · rename_i hn; subst hn; unfold oLI at h; split at h
    · injection h with h; subst h; exact lv_lushr hx hb hd rfl (K ls hL)
    · cases h
  · cases h
theorem pp_lneg  (hx : p.tables.exec = Jvm.exec) (hb : c.code = cc) (hL : LR w nL lc ls) (K : Kp p l e R s mid args below meth c H locs cells slots Q w nL X) (hd : decode cc pc = .ok (.lneg, n)) (h : pS (.lneg) n pc lc st = some X) : W p l e R s mid args below meth c H locs cells slots Q (F0 mid pc ls (st.map (cv w))) := by
  unfold pS at h; dsimp only at h; split at h
  · rename_i hn; subst hn; split at h
    · injection h with h; subst h; exact lv_lneg hx hb hd (K ls hL)
    · cases h
  · cases h
theorem pp_lcmp  (hx : p.tables.exec = Jvm.exec) (hb : c.code = cc) (hL : LR w nL lc ls) (K : Kp p l e R s mid args below meth c H locs cells slots Q w nL X) (hd : decode cc pc = .ok (.lcmp, n)) (h : pS (.lcmp) n pc lc st = some X) : W p l e R s mid args below meth c H locs cells slots Q (F0 mid pc ls (st.map (cv w))) := by
  unfold pS at h; dsimp only at h; split at h
  · rename_i hn; subst hn; split at h
    · injection h with h; subst h; exact W.lcmp hx hb hd (K ls hL)
    · cases h
  · cases h
theorem pp_dcmp {op : ClassFile.CmpOp} (hx : p.tables.exec = Jvm.exec) (hb : c.code = cc) (hL : LR w nL lc ls) (K : Kp p l e R s mid args below meth c H locs cells slots Q w nL X) (hd : decode cc pc = .ok (.dcmp op, n)) (h : pS (.dcmp op) n pc lc st = some X) : W p l e R s mid args below meth c H locs cells slots Q (F0 mid pc ls (st.map (cv w))) := by
  unfold pS at h; dsimp only at h; split at h
  · rename_i hn; subst hn; split at h
    · injection h with h; subst h; exact lv_dcmp hx hb hd (K ls hL)
    · cases h
  · cases h
theorem pp_dneg  (hx : p.tables.exec = Jvm.exec) (hb : c.code = cc) (hL : LR w nL lc ls) (K : Kp p l e R s mid args below meth c H locs cells slots Q w nL X) (hd : decode cc pc = .ok (.dneg, n)) (h : pS (.dneg) n pc lc st = some X) : W p l e R s mid args below meth c H locs cells slots Q (F0 mid pc ls (st.map (cv w))) := by
  unfold pS at h; dsimp only at h; split at h
  · rename_i hn; subst hn; split at h
    · injection h with h; subst h; exact lv_dneg hx hb hd (K ls hL)
    · cases h
  · cases h
theorem pp_i2l  (hx : p.tables.exec = Jvm.exec) (hb : c.code = cc) (hL : LR w nL lc ls) (K : Kp p l e R s mid args below meth c H locs cells slots Q w nL X) (hd : decode cc pc = .ok (.i2l, n)) (h : pS (.i2l) n pc lc st = some X) : W p l e R s mid args below meth c H locs cells slots Q (F0 mid pc ls (st.map (cv w))) := by
  unfold pS at h; dsimp only at h; split at h
  · rename_i hn; subst hn; split at h
    · injection h with h; subst h; exact lv_i2l hx hb hd rfl (K ls hL)
    · cases h
  · cases h
theorem pp_l2i  (hx : p.tables.exec = Jvm.exec) (hb : c.code = cc) (hL : LR w nL lc ls) (K : Kp p l e R s mid args below meth c H locs cells slots Q w nL X) (hd : decode cc pc = .ok (.l2i, n)) (h : pS (.l2i) n pc lc st = some X) : W p l e R s mid args below meth c H locs cells slots Q (F0 mid pc ls (st.map (cv w))) := by
  unfold pS at h; dsimp only at h; split at h
  · rename_i hn; subst hn; split at h
    · injection h with h; subst h; exact lv_l2i hx hb hd rfl (K ls hL)
    · cases h
  · cases h
theorem pp_i2b  (hx : p.tables.exec = Jvm.exec) (hb : c.code = cc) (hL : LR w nL lc ls) (K : Kp p l e R s mid args below meth c H locs cells slots Q w nL X) (hd : decode cc pc = .ok (.i2b, n)) (h : pS (.i2b) n pc lc st = some X) : W p l e R s mid args below meth c H locs cells slots Q (F0 mid pc ls (st.map (cv w))) := by
  unfold pS at h; dsimp only at h; split at h
  · rename_i hn; subst hn; split at h
    · injection h with h; subst h; exact lv_i2b hx hb hd rfl (K ls hL)
    · cases h
  · cases h
theorem pp_i2d  (hx : p.tables.exec = Jvm.exec) (hb : c.code = cc) (hL : LR w nL lc ls) (K : Kp p l e R s mid args below meth c H locs cells slots Q w nL X) (hd : decode cc pc = .ok (.i2d, n)) (h : pS (.i2d) n pc lc st = some X) : W p l e R s mid args below meth c H locs cells slots Q (F0 mid pc ls (st.map (cv w))) := by
  unfold pS at h; dsimp only at h; split at h
  · rename_i hn; subst hn; split at h
    · injection h with h; subst h; exact lv_i2d hx hb hd (K ls hL)
    · cases h
  · cases h
theorem pp_l2d  (hx : p.tables.exec = Jvm.exec) (hb : c.code = cc) (hL : LR w nL lc ls) (K : Kp p l e R s mid args below meth c H locs cells slots Q w nL X) (hd : decode cc pc = .ok (.l2d, n)) (h : pS (.l2d) n pc lc st = some X) : W p l e R s mid args below meth c H locs cells slots Q (F0 mid pc ls (st.map (cv w))) := by
  unfold pS at h; dsimp only at h; split at h
  · rename_i hn; subst hn; split at h
    · injection h with h; subst h; exact lv_l2d hx hb hd (K ls hL)
    · cases h
  · cases h
theorem pp_iconst {k : Int} (hx : p.tables.exec = Jvm.exec) (hb : c.code = cc) (hL : LR w nL lc ls) (K : Kp p l e R s mid args below meth c H locs cells slots Q w nL X) (hd : decode cc pc = .ok (.iconst k, n)) (h : pS (.iconst k) n pc lc st = some X) : W p l e R s mid args below meth c H locs cells slots Q (F0 mid pc ls (st.map (cv w))) := by
  unfold pS at h; dsimp only at h; split at h
  · rename_i hn; subst hn; injection h with h; subst h; exact lv_iconst hx hb hd rfl (K ls hL)
  · cases h
theorem pp_bipush {k : Int} (hx : p.tables.exec = Jvm.exec) (hb : c.code = cc) (hL : LR w nL lc ls) (K : Kp p l e R s mid args below meth c H locs cells slots Q w nL X) (hd : decode cc pc = .ok (.bipush k, n)) (h : pS (.bipush k) n pc lc st = some X) : W p l e R s mid args below meth c H locs cells slots Q (F0 mid pc ls (st.map (cv w))) := by
  unfold pS at h; dsimp only at h; split at h
  · rename_i hn; subst hn; injection h with h; subst h; exact lv_bipush hx hb hd rfl (K ls hL)
  · cases h
theorem pp_sipush {k : Int} (hx : p.tables.exec = Jvm.exec) (hb : c.code = cc) (hL : LR w nL lc ls) (K : Kp p l e R s mid args below meth c H locs cells slots Q w nL X) (hd : decode cc pc = .ok (.sipush k, n)) (h : pS (.sipush k) n pc lc st = some X) : W p l e R s mid args below meth c H locs cells slots Q (F0 mid pc ls (st.map (cv w))) := by
  unfold pS at h; dsimp only at h; split at h
  · rename_i hn; subst hn; injection h with h; subst h; exact lv_sipush hx hb hd rfl (K ls hL)
  · cases h
theorem pp_lconst {k : Fin 2} (hx : p.tables.exec = Jvm.exec) (hb : c.code = cc) (hL : LR w nL lc ls) (K : Kp p l e R s mid args below meth c H locs cells slots Q w nL X) (hd : decode cc pc = .ok (.lconst k, n)) (h : pS (.lconst k) n pc lc st = some X) : W p l e R s mid args below meth c H locs cells slots Q (F0 mid pc ls (st.map (cv w))) := by
  unfold pS at h; dsimp only at h; split at h
  · rename_i hn; subst hn; injection h with h; subst h; exact lv_lconst hx hb hd rfl (K ls hL)
  · cases h
theorem pp_null  (hx : p.tables.exec = Jvm.exec) (hb : c.code = cc) (hL : LR w nL lc ls) (K : Kp p l e R s mid args below meth c H locs cells slots Q w nL X) (hd : decode cc pc = .ok (.aconst_null, n)) (h : pS (.aconst_null) n pc lc st = some X) : W p l e R s mid args below meth c H locs cells slots Q (F0 mid pc ls (st.map (cv w))) := by
  unfold pS at h; dsimp only at h; split at h
  · rename_i hn; subst hn; injection h with h; subst h; exact lv_null hx hb hd (K ls hL)
  · cases h
theorem pp_dconst {k : Fin 2} (hx : p.tables.exec = Jvm.exec) (hb : c.code = cc) (hL : LR w nL lc ls) (K : Kp p l e R s mid args below meth c H locs cells slots Q w nL X) (hd : decode cc pc = .ok (.dconst k, n)) (h : pS (.dconst k) n pc lc st = some X) : W p l e R s mid args below meth c H locs cells slots Q (F0 mid pc ls (st.map (cv w))) := by
  unfold pS at h; dsimp only at h; split at h
  · rename_i hn; obtain ⟨rfl, rfl⟩ := hn; injection h with h; subst h; exact lv_dconst0 hx hb hd (K ls hL)
  · cases h
theorem pp_iload_n {k : Fin 4} (hx : p.tables.exec = Jvm.exec) (hb : c.code = cc) (hL : LR w nL lc ls) (K : Kp p l e R s mid args below meth c H locs cells slots Q w nL X) (hd : decode cc pc = .ok (.iload_n k, n)) (h : pS (.iload_n k) n pc lc st = some X) : W p l e R s mid args below meth c H locs cells slots Q (F0 mid pc ls (st.map (cv w))) := by
  unfold pS at h; dsimp only at h; split at h
  · rename_i hn; subst hn; unfold ldI at h; split at h
    · rename_i hg; injection h with h; subst h; exact lv_iload_n hx hb hd rfl (hL.get hg) (K ls hL)
    · cases h
  · cases h
theorem pp_iload {k : Nat} (hx : p.tables.exec = Jvm.exec) (hb : c.code = cc) (hL : LR w nL lc ls) (K : Kp p l e R s mid args below meth c H locs cells slots Q w nL X) (hd : decode cc pc = .ok (.iload k, n)) (h : pS (.iload k) n pc lc st = some X) : W p l e R s mid args below meth c H locs cells slots Q (F0 mid pc ls (st.map (cv w))) := by
  unfold pS at h; dsimp only at h; split at h
  · rename_i hn; subst hn; unfold ldI at h; split at h
    · rename_i hg; injection h with h; subst h; exact lv_iload hx hb hd (hL.get hg) (K ls hL)
    · cases h
  · cases h
theorem pp_lload_n {k : Fin 4} (hx : p.tables.exec = Jvm.exec) (hb : c.code = cc) (hL : LR w nL lc ls) (K : Kp p l e R s mid args below meth c H locs cells slots Q w nL X) (hd : decode cc pc = .ok (.lload_n k, n)) (h : pS (.lload_n k) n pc lc st = some X) : W p l e R s mid args below meth c H locs cells slots Q (F0 mid pc ls (st.map (cv w))) := by
  unfold pS at h; dsimp only at h; split at h
  · rename_i hn; subst hn; unfold ldL at h; split at h
    · rename_i hg; injection h with h; subst h; exact lv_lload_n hx hb hd rfl (hL.get hg) (K ls hL)
    · cases h
  · cases h
theorem pp_lload {k : Nat} (hx : p.tables.exec = Jvm.exec) (hb : c.code = cc) (hL : LR w nL lc ls) (K : Kp p l e R s mid args below meth c H locs cells slots Q w nL X) (hd : decode cc pc = .ok (.lload k, n)) (h : pS (.lload k) n pc lc st = some X) : W p l e R s mid args below meth c H locs cells slots Q (F0 mid pc ls (st.map (cv w))) := by
  unfold pS at h; dsimp only at h; split at h
  · rename_i hn; subst hn; unfold ldL at h; split at h
    · rename_i hg; injection h with h; subst h; exact lv_lload hx hb hd (hL.get hg) (K ls hL)
    · cases h
  · cases h
theorem pp_dload_n {k : Fin 4} (hx : p.tables.exec = Jvm.exec) (hb : c.code = cc) (hL : LR w nL lc ls) (K : Kp p l e R s mid args below meth c H locs cells slots Q w nL X) (hd : decode cc pc = .ok (.dload_n k, n)) (h : pS (.dload_n k) n pc lc st = some X) : W p l e R s mid args below meth c H locs cells slots Q (F0 mid pc ls (st.map (cv w))) := by
  unfold pS at h; dsimp only at h; split at h
  · rename_i hn; subst hn; unfold ldD at h; split at h
    · rename_i hg; injection h with h; subst h; exact lv_dload_n hx hb hd rfl (hL.get hg) (K ls hL)
    · cases h
  · cases h
theorem pp_dload {k : Nat} (hx : p.tables.exec = Jvm.exec) (hb : c.code = cc) (hL : LR w nL lc ls) (K : Kp p l e R s mid args below meth c H locs cells slots Q w nL X) (hd : decode cc pc = .ok (.dload k, n)) (h : pS (.dload k) n pc lc st = some X) : W p l e R s mid args below meth c H locs cells slots Q (F0 mid pc ls (st.map (cv w))) := by
  unfold pS at h; dsimp only at h; split at h
  · rename_i hn; subst hn; unfold ldD at h; split at h
    · rename_i hg; injection h with h; subst h; exact lv_dload hx hb hd (hL.get hg) (K ls hL)
    · cases h
  · cases h
theorem pp_aload_n {k : Fin 4} (hx : p.tables.exec = Jvm.exec) (hb : c.code = cc) (hL : LR w nL lc ls) (K : Kp p l e R s mid args below meth c H locs cells slots Q w nL X) (hd : decode cc pc = .ok (.aload_n k, n)) (h : pS (.aload_n k) n pc lc st = some X) : W p l e R s mid args below meth c H locs cells slots Q (F0 mid pc ls (st.map (cv w))) := by
  unfold pS at h; dsimp only at h; split at h
  · rename_i hn; subst hn; unfold ldA at h; split at h
    · rename_i y hg; injection h with h; subst h
      have hk := K ls hL; have hg := hL.get hg
      rcases cv_ref w y with ⟨-, q⟩ | ⟨-, a, q⟩
      · rw [q] at hg; refine lv_aload_nN hx hb hd rfl hg ?_; simpa only [List.map_cons, q] using hk
      · rw [q] at hg; refine lv_aload_n hx hb hd rfl hg ?_; simpa only [List.map_cons, q] using hk
    · cases h
  · cases h
theorem pp_aload {k : Nat} (hx : p.tables.exec = Jvm.exec) (hb : c.code = cc) (hL : LR w nL lc ls) (K : Kp p l e R s mid args below meth c H locs cells slots Q w nL X) (hd : decode cc pc = .ok (.aload k, n)) (h : pS (.aload k) n pc lc st = some X) : W p l e R s mid args below meth c H locs cells slots Q (F0 mid pc ls (st.map (cv w))) := by
  unfold pS at h; dsimp only at h; split at h
  · rename_i hn; subst hn; unfold ldA at h; split at h
    · rename_i y hg; injection h with h; subst h
      have hk := K ls hL; have hg := hL.get hg
      rcases cv_ref w y with ⟨-, q⟩ | ⟨-, a, q⟩
      · rw [q] at hg; refine lv_aloadN hx hb hd hg ?_; simpa only [List.map_cons, q] using hk
      · rw [q] at hg; refine lv_aload hx hb hd hg ?_; simpa only [List.map_cons, q] using hk
    · cases h
  · cases h
theorem pp_istore_n {k : Fin 4} (hx : p.tables.exec = Jvm.exec) (hb : c.code = cc) (hL : LR w nL lc ls) (K : Kp p l e R s mid args below meth c H locs cells slots Q w nL X) (hd : decode cc pc = .ok (.istore_n k, n)) (h : pS (.istore_n k) n pc lc st = some X) : W p l e R s mid args below meth c H locs cells slots Q (F0 mid pc ls (st.map (cv w))) := by
  unfold pS at h; dsimp only at h; split at h
  · rename_i hn; subst hn; unfold tI at h; split at h
    · split at h
      · injection h with h; subst h; exact lv_istore_n hx hb hd rfl hL.2 (by rw [← hL.1]; assumption) rfl (fun ls' h' => K ls' (hL.s1 h'))
      · cases h
    · cases h
  · cases h
theorem pp_istore {k : Nat} (hx : p.tables.exec = Jvm.exec) (hb : c.code = cc) (hL : LR w nL lc ls) (K : Kp p l e R s mid args below meth c H locs cells slots Q w nL X) (hd : decode cc pc = .ok (.istore k, n)) (h : pS (.istore k) n pc lc st = some X) : W p l e R s mid args below meth c H locs cells slots Q (F0 mid pc ls (st.map (cv w))) := by
  unfold pS at h; dsimp only at h; split at h
  · rename_i hn; subst hn; unfold tI at h; split at h
    · split at h
      · injection h with h; subst h; exact lv_istore hx hb hd hL.2 (by rw [← hL.1]; assumption) rfl (fun ls' h' => K ls' (hL.s1 h'))
      · cases h
    · cases h
  · cases h
theorem pp_lstore_n {k : Fin 4} (hx : p.tables.exec = Jvm.exec) (hb : c.code = cc) (hL : LR w nL lc ls) (K : Kp p l e R s mid args below meth c H locs cells slots Q w nL X) (hd : decode cc pc = .ok (.lstore_n k, n)) (h : pS (.lstore_n k) n pc lc st = some X) : W p l e R s mid args below meth c H locs cells slots Q (F0 mid pc ls (st.map (cv w))) := by
  unfold pS at h; dsimp only at h; split at h
  · rename_i hn; subst hn; unfold tL at h; split at h
    · split at h
      · injection h with h; subst h; exact lv_lstore_n hx hb hd rfl hL.2 (by rw [← hL.1]; assumption) rfl (fun ls' h' => K ls' (hL.s2 h'))
      · cases h
    · cases h
  · cases h
theorem pp_lstore {k : Nat} (hx : p.tables.exec = Jvm.exec) (hb : c.code = cc) (hL : LR w nL lc ls) (K : Kp p l e R s mid args below meth c H locs cells slots Q w nL X) (hd : decode cc pc = .ok (.lstore k, n)) (h : pS (.lstore k) n pc lc st = some X) : W p l e R s mid args below meth c H locs cells slots Q (F0 mid pc ls (st.map (cv w))) := by
  unfold pS at h; dsimp only at h; split at h
  · rename_i hn; subst hn; unfold tL at h; split at h
    · split at h
      · injection h with h; subst h; exact lv_lstore hx hb hd hL.2 (by rw [← hL.1]; assumption) rfl (fun ls' h' => K ls' (hL.s2 h'))
      · cases h
    · cases h
  · cases h
theorem pp_dstore_n {k : Fin 4} (hx : p.tables.exec = Jvm.exec) (hb : c.code = cc) (hL : LR w nL lc ls) (K : Kp p l e R s mid args below meth c H locs cells slots Q w nL X) (hd : decode cc pc = .ok (.dstore_n k, n)) (h : pS (.dstore_n k) n pc lc st = some X) : W p l e R s mid args below meth c H locs cells slots Q (F0 mid pc ls (st.map (cv w))) := by
  unfold pS at h; dsimp only at h; split at h
  · rename_i hn; subst hn; unfold tD at h; split at h
    · split at h
      · injection h with h; subst h; exact lv_dstore_n hx hb hd rfl hL.2 (by rw [← hL.1]; assumption) rfl (fun ls' h' => K ls' (hL.s2 h'))
      · cases h
    · cases h
  · cases h
theorem pp_dstore {k : Nat} (hx : p.tables.exec = Jvm.exec) (hb : c.code = cc) (hL : LR w nL lc ls) (K : Kp p l e R s mid args below meth c H locs cells slots Q w nL X) (hd : decode cc pc = .ok (.dstore k, n)) (h : pS (.dstore k) n pc lc st = some X) : W p l e R s mid args below meth c H locs cells slots Q (F0 mid pc ls (st.map (cv w))) := by
  unfold pS at h; dsimp only at h; split at h
  · rename_i hn; subst hn; unfold tD at h; split at h
    · split at h
      · injection h with h; subst h; exact lv_dstore hx hb hd hL.2 (by rw [← hL.1]; assumption) rfl (fun ls' h' => K ls' (hL.s2 h'))
      · cases h
    · cases h
  · cases h
theorem pp_astore_n {k : Fin 4} (hx : p.tables.exec = Jvm.exec) (hb : c.code = cc) (hL : LR w nL lc ls) (K : Kp p l e R s mid args below meth c H locs cells slots Q w nL X) (hd : decode cc pc = .ok (.astore_n k, n)) (h : pS (.astore_n k) n pc lc st = some X) : W p l e R s mid args below meth c H locs cells slots Q (F0 mid pc ls (st.map (cv w))) := by
  unfold pS at h; dsimp only at h; split at h
  · rename_i hn; subst hn; unfold tA at h; split at h
    · rename_i y r; split at h
      · rename_i hi; injection h with h; subst h
        have hk : ∀ ls' : Array Slot, lv_has ls' nL ((k.val, cv w (.ref y)) :: (asc w lc).filter (fun q => !(q.1 == k.val) && !(q.1 + 1 == k.val && q.2.category == 2))) → W p l e R s mid args below meth c H locs cells slots Q (F0 mid (pc + 1) ls' (r.map (cv w))) := fun ls' h' => K ls' (hL.s1 h')
        show W p l e R s mid args below meth c H locs cells slots Q (F0 mid pc ls (cv w (.ref y) :: r.map (cv w)))
        rcases cv_ref w y with ⟨-, q⟩ | ⟨-, a, q⟩
        · rw [q] at hk ⊢; exact lv_astore_nN hx hb hd rfl hL.2 (by rw [← hL.1]; exact hi) rfl hk
        · rw [q] at hk ⊢; exact lv_astore_n hx hb hd rfl hL.2 (by rw [← hL.1]; exact hi) rfl hk
      · cases h
    · cases h
  · cases h
theorem pp_astore {k : Nat} (hx : p.tables.exec = Jvm.exec) (hb : c.code = cc) (hL : LR w nL lc ls) (K : Kp p l e R s mid args below meth c H locs cells slots Q w nL X) (hd : decode cc pc = .ok (.astore k, n)) (h : pS (.astore k) n pc lc st = some X) : W p l e R s mid args below meth c H locs cells slots Q (F0 mid pc ls (st.map (cv w))) := by
  unfold pS at h; dsimp only at h; split at h
  · rename_i hn; subst hn; unfold tA at h; split at h
    · rename_i y r; split at h
      · rename_i hi; injection h with h; subst h
        have hk : ∀ ls' : Array Slot, lv_has ls' nL ((k, cv w (.ref y)) :: (asc w lc).filter (fun q => !(q.1 == k) && !(q.1 + 1 == k && q.2.category == 2))) → W p l e R s mid args below meth c H locs cells slots Q (F0 mid (pc + 2) ls' (r.map (cv w))) := fun ls' h' => K ls' (hL.s1 h')
        show W p l e R s mid args below meth c H locs cells slots Q (F0 mid pc ls (cv w (.ref y) :: r.map (cv w)))
        rcases cv_ref w y with ⟨-, q⟩ | ⟨-, a, q⟩
        · rw [q] at hk ⊢; exact lv_astoreN hx hb hd hL.2 (by rw [← hL.1]; exact hi) rfl hk
        · rw [q] at hk ⊢; exact lv_astore hx hb hd hL.2 (by rw [← hL.1]; exact hi) rfl hk
      · cases h
    · cases h
  · cases h
theorem pp_iinc {k : Nat} {z : Int} (hx : p.tables.exec = Jvm.exec) (hb : c.code = cc) (hL : LR w nL lc ls) (K : Kp p l e R s mid args below meth c H locs cells slots Q w nL X) (hd : decode cc pc = .ok (.iinc k z, n)) (h : pS (.iinc k z) n pc lc st = some X) : W p l e R s mid args below meth c H locs cells slots Q (F0 mid pc ls (st.map (cv w))) := by
  unfold pS at h; dsimp only at h; split at h
  · rename_i hn; subst hn; split at h
    · rename_i x hg; injection h with h; subst h
      have hi := (List.getElem?_eq_some_iff.mp hg).1
      obtain ⟨kk, hkk⟩ := List.getElem?_of_mem (mem_asc (w := w).mpr ⟨_, hg, rfl⟩)
      exact lv_iinc (k := kk) hx hb hd hL.2 hkk rfl (by rw [← hL.1]; exact hi) rfl (fun ls' h' => K ls' (hL.s1 h'))
    · cases h
  · cases h
theorem pp_dup  (hx : p.tables.exec = Jvm.exec) (hb : c.code = cc) (hL : LR w nL lc ls) (K : Kp p l e R s mid args below meth c H locs cells slots Q w nL X) (hd : decode cc pc = .ok (.dup, n)) (h : pS (.dup) n pc lc st = some X) : W p l e R s mid args below meth c H locs cells slots Q (F0 mid pc ls (st.map (cv w))) := by
  unfold pS at h; dsimp only at h; split at h
  · rename_i hn; subst hn; split at h
    · injection h with h; subst h; exact lv_dup hx hb hd (by rw [cv_cat]; rfl) (K ls hL)
    · injection h with h; subst h; exact lv_dup hx hb hd (by rw [cv_cat]; rfl) (K ls hL)
    · cases h
  · cases h
theorem pp_pop  (hx : p.tables.exec = Jvm.exec) (hb : c.code = cc) (hL : LR w nL lc ls) (K : Kp p l e R s mid args below meth c H locs cells slots Q w nL X) (hd : decode cc pc = .ok (.pop, n)) (h : pS (.pop) n pc lc st = some X) : W p l e R s mid args below meth c H locs cells slots Q (F0 mid pc ls (st.map (cv w))) := by
  unfold pS at h; dsimp only at h; split at h
  · rename_i hn; subst hn; split at h
    · injection h with h; subst h; exact lv_pop hx hb hd (by rw [cv_cat]; rfl) (K ls hL)
    · injection h with h; subst h; exact lv_pop hx hb hd (by rw [cv_cat]; rfl) (K ls hL)
    · cases h
  · cases h
theorem pp_dup2  (hx : p.tables.exec = Jvm.exec) (hb : c.code = cc) (hL : LR w nL lc ls) (K : Kp p l e R s mid args below meth c H locs cells slots Q w nL X) (hd : decode cc pc = .ok (.dup2, n)) (h : pS (.dup2) n pc lc st = some X) : W p l e R s mid args below meth c H locs cells slots Q (F0 mid pc ls (st.map (cv w))) := by
  unfold pS at h; dsimp only at h; split at h
  · rename_i hn; subst hn; split at h
    · injection h with h; subst h; exact lv_dup2_11 hx hb hd rfl (by rw [cv_cat]; rfl) (K ls hL)
    · cases h
  · cases h
theorem pp_goto {z : Int} (hx : p.tables.exec = Jvm.exec) (hb : c.code = cc) (hL : LR w nL lc ls) (K : Kp p l e R s mid args below meth c H locs cells slots Q w nL X) (hd : decode cc pc = .ok (.goto z, n)) (h : pS (.goto z) n pc lc st = some X) : W p l e R s mid args below meth c H locs cells slots Q (F0 mid pc ls (st.map (cv w))) := by
  unfold pS at h; dsimp only at h; split at h
  · rename_i hn; subst hn; split at h
    · rename_i ho; injection h with h; subst h; exact lv_goto hx hb hd (okt_spec ho) (K ls hL)
    · cases h
  · cases h
theorem pp_if_eq {z : Int} (hx : p.tables.exec = Jvm.exec) (hb : c.code = cc) (hL : LR w nL lc ls) (K : Kp p l e R s mid args below meth c H locs cells slots Q w nL X) (hd : decode cc pc = .ok (.ifCond .eq z, n)) (h : pS (.ifCond .eq z) n pc lc st = some X) : W p l e R s mid args below meth c H locs cells slots Q (F0 mid pc ls (st.map (cv w))) := by
  unfold pS at h; dsimp only at h; split at h
  · rename_i hn; subst hn; unfold bI cnd1 at h; split at h
    · split at h
      · rename_i ho; injection h with h; subst h; dsimp only at K
        exact lv_if_eq hx hb hd (okt_spec ho) (fun t => by rw [if_pos (decide_eq_true t)] at K; exact K ls hL) (fun t => by rw [if_neg (by rw [decide_eq_true_eq]; exact t)] at K; exact K ls hL)
      · cases h
    · cases h
  · cases h
theorem pp_icmp_eq {z : Int} (hx : p.tables.exec = Jvm.exec) (hb : c.code = cc) (hL : LR w nL lc ls) (K : Kp p l e R s mid args below meth c H locs cells slots Q w nL X) (hd : decode cc pc = .ok (.if_icmp .eq z, n)) (h : pS (.if_icmp .eq z) n pc lc st = some X) : W p l e R s mid args below meth c H locs cells slots Q (F0 mid pc ls (st.map (cv w))) := by
  unfold pS at h; dsimp only at h; split at h
  · rename_i hn; subst hn; unfold bII cnd2 at h; split at h
    · split at h
      · rename_i ho; injection h with h; subst h; dsimp only at K
        exact lv_icmp_eq hx hb hd (okt_spec ho) (fun t => by rw [if_pos (decide_eq_true t)] at K; exact K ls hL) (fun t => by rw [if_neg (by rw [decide_eq_true_eq]; exact t)] at K; exact K ls hL)
      · cases h
    · cases h
  · cases h
theorem pp_if_ne {z : Int} (hx : p.tables.exec = Jvm.exec) (hb : c.code = cc) (hL : LR w nL lc ls) (K : Kp p l e R s mid args below meth c H locs cells slots Q w nL X) (hd : decode cc pc = .ok (.ifCond .ne z, n)) (h : pS (.ifCond .ne z) n pc lc st = some X) : W p l e R s mid args below meth c H locs cells slots Q (F0 mid pc ls (st.map (cv w))) := by
  unfold pS at h; dsimp only at h; split at h
  · rename_i hn; subst hn; unfold bI cnd1 at h; split at h
    · split at h
      · rename_i ho; injection h with h; subst h; dsimp only at K
        exact lv_if_ne hx hb hd (okt_spec ho) (fun t => by rw [if_pos (decide_eq_true t)] at K; exact K ls hL) (fun t => by rw [if_neg (by rw [decide_eq_true_eq]; exact not_not_intro t)] at K; exact K ls hL)
      · cases h
    · cases h
  · cases h
theorem pp_icmp_ne {z : Int} (hx : p.tables.exec = Jvm.exec) (hb : c.code = cc) (hL : LR w nL lc ls) (K : Kp p l e R s mid args below meth c H locs cells slots Q w nL X) (hd : decode cc pc = .ok (.if_icmp .ne z, n)) (h : pS (.if_icmp .ne z) n pc lc st = some X) : W p l e R s mid args below meth c H locs cells slots Q (F0 mid pc ls (st.map (cv w))) := by
  unfold pS at h; dsimp only at h; split at h
  · rename_i hn; subst hn; unfold bII cnd2 at h; split at h
    · split at h
      · rename_i ho; injection h with h; subst h; dsimp only at K
        exact lv_icmp_ne hx hb hd (okt_spec ho) (fun t => by rw [if_pos (decide_eq_true t)] at K; exact K ls hL) (fun t => by rw [if_neg (by rw [decide_eq_true_eq]; exact not_not_intro t)] at K; exact K ls hL)
      · cases h
    · cases h
  · cases h
theorem pp_if_lt {z : Int} (hx : p.tables.exec = Jvm.exec) (hb : c.code = cc) (hL : LR w nL lc ls) (K : Kp p l e R s mid args below meth c H locs cells slots Q w nL X) (hd : decode cc pc = .ok (.ifCond .lt z, n)) (h : pS (.ifCond .lt z) n pc lc st = some X) : W p l e R s mid args below meth c H locs cells slots Q (F0 mid pc ls (st.map (cv w))) := by
  unfold pS at h; dsimp only at h; split at h
  · rename_i hn; subst hn; unfold bI cnd1 at h; split at h
    · split at h
      · rename_i ho; injection h with h; subst h; dsimp only at K
        exact lv_if_lt hx hb hd (okt_spec ho) (fun t => by rw [if_pos (decide_eq_true t)] at K; exact K ls hL) (fun t => by rw [if_neg (by rw [decide_eq_true_eq]; exact t)] at K; exact K ls hL)
      · cases h
    · cases h
  · cases h
theorem pp_icmp_lt {z : Int} (hx : p.tables.exec = Jvm.exec) (hb : c.code = cc) (hL : LR w nL lc ls) (K : Kp p l e R s mid args below meth c H locs cells slots Q w nL X) (hd : decode cc pc = .ok (.if_icmp .lt z, n)) (h : pS (.if_icmp .lt z) n pc lc st = some X) : W p l e R s mid args below meth c H locs cells slots Q (F0 mid pc ls (st.map (cv w))) := by
  unfold pS at h; dsimp only at h; split at h
  · rename_i hn; subst hn; unfold bII cnd2 at h; split at h
    · split at h
      · rename_i ho; injection h with h; subst h; dsimp only at K
        exact lv_icmp_lt hx hb hd (okt_spec ho) (fun t => by rw [if_pos (decide_eq_true t)] at K; exact K ls hL) (fun t => by rw [if_neg (by rw [decide_eq_true_eq]; exact t)] at K; exact K ls hL)
      · cases h
    · cases h
  · cases h
theorem pp_if_ge {z : Int} (hx : p.tables.exec = Jvm.exec) (hb : c.code = cc) (hL : LR w nL lc ls) (K : Kp p l e R s mid args below meth c H locs cells slots Q w nL X) (hd : decode cc pc = .ok (.ifCond .ge z, n)) (h : pS (.ifCond .ge z) n pc lc st = some X) : W p l e R s mid args below meth c H locs cells slots Q (F0 mid pc ls (st.map (cv w))) := by
  unfold pS at h; dsimp only at h; split at h
  · rename_i hn; subst hn; unfold bI cnd1 at h; split at h
    · split at h
      · rename_i ho; injection h with h; subst h; dsimp only at K
        exact lv_if_ge hx hb hd (okt_spec ho) (fun t => by rw [if_pos (decide_eq_true t)] at K; exact K ls hL) (fun t => by rw [if_neg (by rw [decide_eq_true_eq]; exact t)] at K; exact K ls hL)
      · cases h
    · cases h
  · cases h
theorem pp_icmp_ge {z : Int} (hx : p.tables.exec = Jvm.exec) (hb : c.code = cc) (hL : LR w nL lc ls) (K : Kp p l e R s mid args below meth c H locs cells slots Q w nL X) (hd : decode cc pc = .ok (.if_icmp .ge z, n)) (h : pS (.if_icmp .ge z) n pc lc st = some X) : W p l e R s mid args below meth c H locs cells slots Q (F0 mid pc ls (st.map (cv w))) := by
  unfold pS at h; dsimp only at h; split at h
  · rename_i hn; subst hn; unfold bII cnd2 at h; split at h
    · split at h
      · rename_i ho; injection h with h; subst h; dsimp only at K
        exact lv_icmp_ge hx hb hd (okt_spec ho) (fun t => by rw [if_pos (decide_eq_true t)] at K; exact K ls hL) (fun t => by rw [if_neg (by rw [decide_eq_true_eq]; exact t)] at K; exact K ls hL)
      · cases h
    · cases h
  · cases h
theorem pp_if_gt {z : Int} (hx : p.tables.exec = Jvm.exec) (hb : c.code = cc) (hL : LR w nL lc ls) (K : Kp p l e R s mid args below meth c H locs cells slots Q w nL X) (hd : decode cc pc = .ok (.ifCond .gt z, n)) (h : pS (.ifCond .gt z) n pc lc st = some X) : W p l e R s mid args below meth c H locs cells slots Q (F0 mid pc ls (st.map (cv w))) := by
  unfold pS at h; dsimp only at h; split at h
  · rename_i hn; subst hn; unfold bI cnd1 at h; split at h
    · split at h
      · rename_i ho; injection h with h; subst h; dsimp only at K
        exact lv_if_gt hx hb hd (okt_spec ho) (fun t => by rw [if_pos (decide_eq_true t)] at K; exact K ls hL) (fun t => by rw [if_neg (by rw [decide_eq_true_eq]; exact t)] at K; exact K ls hL)
      · cases h
    · cases h
  · cases h
theorem pp_icmp_gt {z : Int} (hx : p.tables.exec = Jvm.exec) (hb : c.code = cc) (hL : LR w nL lc ls) (K : Kp p l e R s mid args below meth c H locs cells slots Q w nL X) (hd : decode cc pc = .ok (.if_icmp .gt z, n)) (h : pS (.if_icmp .gt z) n pc lc st = some X) : W p l e R s mid args below meth c H locs cells slots Q (F0 mid pc ls (st.map (cv w))) := by
  unfold pS at h; dsimp only at h; split at h
  · rename_i hn; subst hn; unfold bII cnd2 at h; split at h
    · split at h
      · rename_i ho; injection h with h; subst h; dsimp only at K
        exact lv_icmp_gt hx hb hd (okt_spec ho) (fun t => by rw [if_pos (decide_eq_true t)] at K; exact K ls hL) (fun t => by rw [if_neg (by rw [decide_eq_true_eq]; exact t)] at K; exact K ls hL)
      · cases h
    · cases h
  · cases h
theorem pp_if_le {z : Int} (hx : p.tables.exec = Jvm.exec) (hb : c.code = cc) (hL : LR w nL lc ls) (K : Kp p l e R s mid args below meth c H locs cells slots Q w nL X) (hd : decode cc pc = .ok (.ifCond .le z, n)) (h : pS (.ifCond .le z) n pc lc st = some X) : W p l e R s mid args below meth c H locs cells slots Q (F0 mid pc ls (st.map (cv w))) := by
  unfold pS at h; dsimp only at h; split at h
  · rename_i hn; subst hn; unfold bI cnd1 at h; split at h
    · split at h
      · rename_i ho; injection h with h; subst h; dsimp only at K
        exact lv_if_le hx hb hd (okt_spec ho) (fun t => by rw [if_pos (decide_eq_true t)] at K; exact K ls hL) (fun t => by rw [if_neg (by rw [decide_eq_true_eq]; exact t)] at K; exact K ls hL)
      · cases h
    · cases h
  · cases h
theorem pp_icmp_le {z : Int} (hx : p.tables.exec = Jvm.exec) (hb : c.code = cc) (hL : LR w nL lc ls) (K : Kp p l e R s mid args below meth c H locs cells slots Q w nL X) (hd : decode cc pc = .ok (.if_icmp .le z, n)) (h : pS (.if_icmp .le z) n pc lc st = some X) : W p l e R s mid args below meth c H locs cells slots Q (F0 mid pc ls (st.map (cv w))) := by
  unfold pS at h; dsimp only at h; split at h
  · rename_i hn; subst hn; unfold bII cnd2 at h; split at h
    · split at h
      · rename_i ho; injection h with h; subst h; dsimp only at K
        exact lv_icmp_le hx hb hd (okt_spec ho) (fun t => by rw [if_pos (decide_eq_true t)] at K; exact K ls hL) (fun t => by rw [if_neg (by rw [decide_eq_true_eq]; exact t)] at K; exact K ls hL)
      · cases h
    · cases h
  · cases h
theorem pp_ifnull {z : Int} (hx : p.tables.exec = Jvm.exec) (hb : c.code = cc) (hL : LR w nL lc ls) (K : Kp p l e R s mid args below meth c H locs cells slots Q w nL X) (hd : decode cc pc = .ok (.ifnull z, n)) (h : pS (.ifnull z) n pc lc st = some X) : W p l e R s mid args below meth c H locs cells slots Q (F0 mid pc ls (st.map (cv w))) := by
  unfold pS at h; dsimp only at h; split at h
  · rename_i hn; subst hn; split at h
    · rename_i y r; split at h
      · rename_i ho; injection h with h; subst h
        show W p l e R s mid args below meth c H locs cells slots Q (F0 mid pc ls (cv w (.ref y) :: r.map (cv w)))
        have hk := K ls hL; dsimp only at hk
        rcases cv_ref w y with ⟨z0, q⟩ | ⟨z0, a, q⟩
        · rw [if_pos z0] at hk; rw [q]; exact lv_ifnullN hx hb hd (okt_spec ho) hk
        · rw [if_neg z0] at hk; rw [q]; exact lv_ifnull hx hb hd hk
      · cases h
    · cases h
  · cases h
theorem pp_ifnonnull {z : Int} (hx : p.tables.exec = Jvm.exec) (hb : c.code = cc) (hL : LR w nL lc ls) (K : Kp p l e R s mid args below meth c H locs cells slots Q w nL X) (hd : decode cc pc = .ok (.ifnonnull z, n)) (h : pS (.ifnonnull z) n pc lc st = some X) : W p l e R s mid args below meth c H locs cells slots Q (F0 mid pc ls (st.map (cv w))) := by
  unfold pS at h; dsimp only at h; split at h
  · rename_i hn; subst hn; split at h
    · rename_i y r; split at h
      · rename_i ho; injection h with h; subst h
        show W p l e R s mid args below meth c H locs cells slots Q (F0 mid pc ls (cv w (.ref y) :: r.map (cv w)))
        have hk := K ls hL; dsimp only at hk
        rcases cv_ref w y with ⟨z0, q⟩ | ⟨z0, a, q⟩
        · rw [if_pos z0] at hk; rw [q]; exact lv_ifnonnullN hx hb hd hk
        · rw [if_neg z0] at hk; rw [q]; exact lv_ifnonnull hx hb hd (okt_spec ho) hk
      · cases h
    · cases h
  · cases h
theorem swi_off (x d : Int) : ∀ ps : List (Int × Int), swi x d ps = Op.lookupswitch.offset ps d x
  | [] => rfl
  | (a, b) :: r => by
    rw [Op.lookupswitch.offset_cons]
    show (if x = a then b else swi x d r) = _
    by_cases q : x = a
    · rw [if_pos q, if_pos q.symm]
    · rw [if_neg q, if_neg (fun z => q z.symm), swi_off x d r]
theorem swi_in (x d : Int) : ∀ ps : List (Int × Int), swi x d ps = d ∨ ∃ q ∈ ps, swi x d ps = q.2
  | [] => Or.inl rfl
  | (a, b) :: r => by
    show (if x = a then b else swi x d r) = d ∨ _
    by_cases q : x = a
    · exact Or.inr ⟨(a, b), List.mem_cons_self, by show (if x = a then b else swi x d r) = b; rw [if_pos q]⟩
    · rcases swi_in x d r with z | ⟨y, hy, z⟩
      · exact Or.inl (by rw [if_neg q]; exact z)
      · exact Or.inr ⟨y, List.mem_cons_of_mem _ hy, by show (if x = a then b else swi x d r) = _; rw [if_neg q]; exact z⟩
theorem pp_lookup {d0 : Int} {ps : Array (Int × Int)} (hx : p.tables.exec = Jvm.exec) (hb : c.code = cc) (hL : LR w nL lc ls) (K : Kp p l e R s mid args below meth c H locs cells slots Q w nL X) (hd : decode cc pc = .ok (.lookupswitch d0 ps, n)) (h : pS (.lookupswitch d0 ps) n pc lc st = some X) : W p l e R s mid args below meth c H locs cells slots Q (F0 mid pc ls (st.map (cv w))) := by
  unfold pS at h; dsimp only at h; split at h
  · rename_i x r; split at h
    · rename_i ho; injection h with h; subst h
      obtain ⟨o1, o2, o3⟩ := ho
      refine lv_lookup hx hb hd o1 (swi_off x.toInt d0 ps.toList).symm ?_ (K ls hL)
      refine okt_spec ?_
      rcases swi_in x.toInt d0 ps.toList with z | ⟨y, hy, z⟩
      · rw [z]; exact o2
      · rw [z]; exact List.all_eq_true.mp o3 y hy
    · cases h
  · cases h
theorem pp_table {d0 lo hi : Int} {os : Array Int} (hx : p.tables.exec = Jvm.exec) (hb : c.code = cc) (hL : LR w nL lc ls) (K : Kp p l e R s mid args below meth c H locs cells slots Q w nL X) (hd : decode cc pc = .ok (.tableswitch d0 lo hi os, n)) (h : pS (.tableswitch d0 lo hi os) n pc lc st = some X) : W p l e R s mid args below meth c H locs cells slots Q (F0 mid pc ls (st.map (cv w))) := by
  unfold pS at h; dsimp only at h; split at h
  · rename_i x r; split at h
    · rename_i ho; injection h with h; subst h
      obtain ⟨o1, o2, o3⟩ := ho
      have hk := K ls hL; dsimp only at hk
      by_cases q : x.toInt < lo ∨ hi < x.toInt
      · rw [if_pos q] at hk; exact lv_tableOut hx hb hd q (okt_spec o1) hk
      · rw [if_neg q] at hk
        have hlt : (x.toInt - lo).toNat < os.size := by omega
        have hg : os[(x.toInt - lo).toNat]? = some os[(x.toInt - lo).toNat] := Array.getElem?_eq_getElem hlt
        rw [Array.getD_eq_getD_getElem?, hg, Option.getD_some] at hk
        refine lv_tableIn hx hb hd (fun z => q (Or.inl z)) (fun z => q (Or.inr z)) hg (okt_spec (List.all_eq_true.mp o2 _ ?_)) hk
        exact Array.mem_toList_iff.mpr (Array.getElem_mem hlt)
    · cases h
  · cases h
/-- every step that needs neither heap nor tables -/
theorem pp_all {i : Instr} (hx : p.tables.exec = Jvm.exec) (hb : c.code = cc) (hL : LR w nL lc ls) (K : Kp p l e R s mid args below meth c H locs cells slots Q w nL X) (hd : decode cc pc = .ok (i, n)) (h : pS i n pc lc st = some X) : W p l e R s mid args below meth c H locs cells slots Q (F0 mid pc ls (st.map (cv w))) := by
  cases i with
  | iadd => exact pp_iadd hx hb hL K hd h
  | isub => exact pp_isub hx hb hL K hd h
  | imul => exact pp_imul hx hb hL K hd h
  | iand => exact pp_iand hx hb hL K hd h
  | ior => exact pp_ior hx hb hL K hd h
  | ishl => exact pp_ishl hx hb hL K hd h
  | ishr => exact pp_ishr hx hb hL K hd h
  | ladd => exact pp_ladd hx hb hL K hd h
  | lsub => exact pp_lsub hx hb hL K hd h
  | lmul => exact pp_lmul hx hb hL K hd h
  | land => exact pp_land hx hb hL K hd h
  | lor => exact pp_lor hx hb hL K hd h
  | lxor => exact pp_lxor hx hb hL K hd h
  | lshl => exact pp_lshl hx hb hL K hd h
  | lshr => exact pp_lshr hx hb hL K hd h
  | lushr => exact pp_lushr hx hb hL K hd h
  | lneg => exact pp_lneg hx hb hL K hd h
  | lcmp => exact pp_lcmp hx hb hL K hd h
  | dcmp => exact pp_dcmp hx hb hL K hd h
  | dneg => exact pp_dneg hx hb hL K hd h
  | i2l => exact pp_i2l hx hb hL K hd h
  | l2i => exact pp_l2i hx hb hL K hd h
  | i2b => exact pp_i2b hx hb hL K hd h
  | i2d => exact pp_i2d hx hb hL K hd h
  | l2d => exact pp_l2d hx hb hL K hd h
  | iconst => exact pp_iconst hx hb hL K hd h
  | bipush => exact pp_bipush hx hb hL K hd h
  | sipush => exact pp_sipush hx hb hL K hd h
  | lconst => exact pp_lconst hx hb hL K hd h
  | dconst => exact pp_dconst hx hb hL K hd h
  | iload_n => exact pp_iload_n hx hb hL K hd h
  | iload => exact pp_iload hx hb hL K hd h
  | lload_n => exact pp_lload_n hx hb hL K hd h
  | lload => exact pp_lload hx hb hL K hd h
  | dload_n => exact pp_dload_n hx hb hL K hd h
  | dload => exact pp_dload hx hb hL K hd h
  | aload_n => exact pp_aload_n hx hb hL K hd h
  | aload => exact pp_aload hx hb hL K hd h
  | istore_n => exact pp_istore_n hx hb hL K hd h
  | istore => exact pp_istore hx hb hL K hd h
  | lstore_n => exact pp_lstore_n hx hb hL K hd h
  | lstore => exact pp_lstore hx hb hL K hd h
  | dstore_n => exact pp_dstore_n hx hb hL K hd h
  | dstore => exact pp_dstore hx hb hL K hd h
  | astore_n => exact pp_astore_n hx hb hL K hd h
  | astore => exact pp_astore hx hb hL K hd h
  | iinc => exact pp_iinc hx hb hL K hd h
  | dup => exact pp_dup hx hb hL K hd h
  | pop => exact pp_pop hx hb hL K hd h
  | dup2 => exact pp_dup2 hx hb hL K hd h
  | goto => exact pp_goto hx hb hL K hd h
  | ifnull => exact pp_ifnull hx hb hL K hd h
  | ifnonnull => exact pp_ifnonnull hx hb hL K hd h
  | aconst_null => exact pp_null hx hb hL K hd h
  | lookupswitch => exact pp_lookup hx hb hL K hd h
  | tableswitch => exact pp_table hx hb hL K hd h
  | ifCond cc z => cases cc with
    | eq => exact pp_if_eq hx hb hL K hd h
    | ne => exact pp_if_ne hx hb hL K hd h
    | lt => exact pp_if_lt hx hb hL K hd h
    | ge => exact pp_if_ge hx hb hL K hd h
    | gt => exact pp_if_gt hx hb hL K hd h
    | le => exact pp_if_le hx hb hL K hd h
  | if_icmp cc z => cases cc with
    | eq => exact pp_icmp_eq hx hb hL K hd h
    | ne => exact pp_icmp_ne hx hb hL K hd h
    | lt => exact pp_icmp_lt hx hb hL K hd h
    | ge => exact pp_icmp_ge hx hb hL K hd h
    | gt => exact pp_icmp_gt hx hb hL K hd h
    | le => exact pp_icmp_le hx hb hL K hd h
  | _ => cases h
end PS
