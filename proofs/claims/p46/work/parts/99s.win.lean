/-! ===== an instruction read in a window of the bytes ===== -/
def mOkT (y pc : Nat) (e : mE) : Bool :=
  let M := mM y
  let own := M.1.cls
  let fr := M.2.2.2.2.2.2.1
  let e1 := e.2.2.1
  let e2 := e.2.2.2
  e.2.1 == mLn e.1 e.2.1 && (match e.1 with
    | .goto o => decide ((pc : Int) + o = (e1 : Int))
    | .ifCond _ o => decide ((pc : Int) + o = (e1 : Int))
    | .if_icmp _ o => decide ((pc : Int) + o = (e1 : Int))
    | .if_acmp _ o => decide ((pc : Int) + o = (e1 : Int))
    | .ifnull o => decide ((pc : Int) + o = (e1 : Int))
    | .ifnonnull o => decide ((pc : Int) + o = (e1 : Int))
    | .bipush n => decide ((Int8.ofInt n).toInt32 = Int32.ofInt n)
    | .sipush n => decide ((Int16.ofInt n).toInt32 = Int32.ofInt n)
    | .tableswitch d _ _ offs => decide (0 ≤ (pc : Int) + d) && offs.all (fun o => decide (0 ≤ (pc : Int) + o))
    | .getfield idx => mOkF own idx e1 e2
    | .putfield idx => mOkF own idx e1 (e2 % 128) && mOkP own M.2.2.2.2.1 e1 (e2 % 128) (e2 / 128)
    | .new idx => if 100 ≤ e1 then decide (e1 < 103) && decide (6 ≤ fr) && mOkC own idx (mEx (e1 - 100)) && decide (decode M.2.1 (pc + 3) = .ok (.dup, 1)) && decide (decode M.2.1 (pc + 4) = .ok (.invokespecial e2, 3)) && decide (decode M.2.1 (pc + 7) = .ok (.athrow, 1)) && decide (0 < y) && decide (own = "Ropewalk") && e2 == mIc (e1 - 100)
      else decide (e1 < 12) && mOkC own idx (mCn e1) && decide (e2 < 127)
    | .newarray a => (match e1 with
      | 0 => decide (a = .int)
      | _ => false) && decide (e2 < 127)
    | .anewarray idx => decide (3 ≤ e1) && decide (e1 < 7) && mOkC own idx (mAt e1) && decide (e2 < 127)
    | .checkcast idx => decide (e1 < 12) && mOkC own idx (mCn e1)
    | .invokespecial idx => if e1 = 1000 then mOkK own idx ⟨"java/lang/Object", "<init>", "()V"⟩ && decide (1 ≤ fr) else mOkI own fr idx e1 e2 2
    | .invokestatic idx => if e1 = 1001 then mOkK own idx ⟨"java/lang/System", "arraycopy", "(Ljava/lang/Object;ILjava/lang/Object;II)V"⟩ && decide (1 ≤ fr)
      else if e1 = 1003 then mOkK own idx ⟨"java/lang/Math", "max", "(II)I"⟩ && decide (1 ≤ fr)
      else if e1 = 1004 then mOkK own idx ⟨"java/lang/Math", "min", "(II)I"⟩ && decide (1 ≤ fr)
      else if e1 = 1005 then mOkK own idx ⟨"java/lang/Math", "abs", "(I)I"⟩ && decide (1 ≤ fr)
      else mOkI own fr idx e1 e2 0
    | .invokevirtual idx => if e1 = 1002 then mOkK own idx ⟨"java/lang/Object", "getClass", "()Ljava/lang/Class;"⟩ && decide (1 ≤ fr)
      else mOkI own fr idx e1 e2 1 && decide (e2 / 256 < 12) && mCn (e2 / 256) == (mM e1).1.cls
    | .ireturn => (decide (M.2.2.2.1 = some .int) && e1 == 1) || (decide (M.2.2.2.1 = some .boolean) && e1 == 2)
    | .areturn => match M.2.2.2.1 with
      | some (.object _) => true
      | some (.array _) => true
      | _ => false
    | .return_ => decide (M.2.2.2.1 = none)
    | .ldc idx => (e1 == 1 && mOkC own idx "[Ljava/lang/Object;") || (e1 == 2 && own == "jdk/internal/util/ArraysSupport" && idx == 200) || (decide (3 ≤ e1) && decide (e1 < 9) && own == "RopewalkLaw" && idx == mKi e1)
    | .baload => false
    | .bastore => false
    | .laload => false
    | .lastore => false
    | .getstatic idx => mFl.any (fun q => q.1 == idx && q.2.1 == own && q.2.2.1 == "java/util/ArrayList" && q.2.2.2.1 == "DEFAULTCAPACITY_EMPTY_ELEMENTDATA" && q.2.2.2.2.1 == "[Ljava/lang/Object;")
    | _ => true)
theorem mOkE_of {y pc : Nat} {e : mE} (h1 : decode (mM y).2.1 pc = .ok (e.1, e.2.1)) (h2 : mOkT y pc e = true) : mOkE y pc e = true := by
  unfold mOkE
  unfold mOkT at h2
  simp only [h1, decide_true, Bool.true_and]
  exact h2
section WIN
variable {w c : ByteArray} {d : Nat} {α β : Type}
def wdR (w c : ByteArray) (d : Nat) (r r' : Decoder α) : Prop := ∀ k v k', Reader.runAt r w k = .ok (v, k') → Reader.runAt r' c (d + k) = .ok (v, d + k')
def wdH (w c : ByteArray) (d : Nat) : Prop := ∀ k (h : k < w.size), ∃ h' : d + k < c.size, c[d + k] = w[k]
theorem wdR_pure (v : α) : wdR w c d (pure v) (pure v) := by
  intro k v' k' h
  have h2 : (Except.ok (v, k) : Except DecodeError (α × Nat)) = .ok (v', k') := h
  cases h2
  rfl
theorem wdR_bind {r r' : Decoder α} {f f' : α → Decoder β} (h : wdR w c d r r') (hf : ∀ v, wdR w c d (f v) (f' v)) : wdR w c d (r >>= f) (r' >>= f') := by
  intro k v k' e
  have e1 : Except.bind (Reader.runAt r w k) (fun p => Reader.runAt (f p.1) w p.2) = .ok (v, k') := e
  cases hr : Reader.runAt r w k with
  | error x => rw [hr] at e1; cases e1
  | ok p =>
    obtain ⟨a, k1⟩ := p
    rw [hr] at e1
    have e2 : Reader.runAt (f a) w k1 = .ok (v, k') := e1
    have e3 := hf a _ _ _ e2
    have e4 := h _ _ _ hr
    show Except.bind (Reader.runAt r' c (d + k)) (fun p => Reader.runAt (f' p.1) c p.2) = .ok (v, d + k')
    rw [e4]
    exact e3
theorem wdR_map {r r' : Decoder α} {f : α → β} (h : wdR w c d r r') : wdR w c d (f <$> r) (f <$> r') := by
  intro k v k' e
  have e1 : Except.bind (Reader.runAt r w k) (fun p => .ok (f p.1, p.2)) = .ok (v, k') := e
  cases hr : Reader.runAt r w k with
  | error x => rw [hr] at e1; cases e1
  | ok p =>
    obtain ⟨a, k1⟩ := p
    rw [hr] at e1
    have e2 : (Except.ok (f a, k1) : Except DecodeError (β × Nat)) = .ok (v, k') := e1
    have e4 := h _ _ _ hr
    cases e2
    show Except.bind (Reader.runAt r' c (d + k)) (fun p => .ok (f p.1, p.2)) = _
    rw [e4]
    rfl
theorem wdR_throw {r' : Decoder α} (x : DecodeError) : wdR w c d (throw x : Decoder α) r' := by
  intro k v k' h
  have h2 : (Except.error x : Except DecodeError (α × Nat)) = .ok (v, k') := h
  cases h2
theorem wdR_ite {p : Prop} [Decidable p] {a a' b' : Decoder α} {g : β → Decoder α} (x : DecodeError) (h : wdR w c d a a') : wdR w c d (if p then a else (throw x : Decoder β) >>= g) (if p then a' else b') := by
  by_cases hp : p
  · rw [if_pos hp, if_pos hp]; exact h
  · rw [if_neg hp]
    intro k v k' h2
    have h3 : (Except.error x : Except DecodeError (α × Nat)) = .ok (v, k') := h2
    cases h3
theorem wd_u1 {w : ByteArray} {k : Nat} (h : k < w.size) : Reader.runAt (Reader.u1 : Decoder Nat) w k = .ok (w[k].toNat, k + 1) :=
  congrFun (congrFun (dif_pos h : (dite (k < w.size) (fun h => (do set (k + 1); pure (w[k]).toNat : Decoder Nat)) (fun _ => throw (HasTruncated.truncated k))) = _) w) k
theorem wd_u1n {w : ByteArray} {k : Nat} (h : ¬ k < w.size) : Reader.runAt (Reader.u1 : Decoder Nat) w k = .error (.truncated k) :=
  congrFun (congrFun (dif_neg h : (dite (k < w.size) (fun h => (do set (k + 1); pure (w[k]).toNat : Decoder Nat)) (fun _ => throw (HasTruncated.truncated k))) = _) w) k
theorem wdR_u1 (H : wdH w c d) : wdR w c d (Reader.u1 : Decoder Nat) Reader.u1 := by
  intro k v k' e
  by_cases h : k < w.size
  · rw [wd_u1 h] at e
    cases e
    obtain ⟨h', e'⟩ := H k h
    rw [wd_u1 h', e']
    rfl
  · rw [wd_u1n h] at e
    cases e
theorem wdR_u2 (H : wdH w c d) : wdR w c d (Reader.u2 : Decoder Nat) Reader.u2 := wdR_bind (wdR_u1 H) fun _ => wdR_bind (wdR_u1 H) fun _ => wdR_pure _
theorem wdR_u4 (H : wdH w c d) : wdR w c d (Reader.u4 : Decoder Nat) Reader.u4 := wdR_bind (wdR_u2 H) fun _ => wdR_bind (wdR_u2 H) fun _ => wdR_pure _
theorem wdR_s1 (H : wdH w c d) : wdR w c d (Reader.s1 : Decoder Int) Reader.s1 := wdR_map (wdR_u1 H)
theorem wdR_s2 (H : wdH w c d) : wdR w c d (Reader.s2 : Decoder Int) Reader.s2 := wdR_map (wdR_u2 H)
theorem wdR_s4 (H : wdH w c d) : wdR w c d (Reader.s4 : Decoder Int) Reader.s4 := wdR_map (wdR_u4 H)
theorem wdR_go {r r' : Decoder α} (h : wdR w c d r r') : ∀ n (acc : Array α), wdR w c d (Reader.times.go r n acc) (Reader.times.go r' n acc)
  | 0, acc => wdR_pure acc
  | n + 1, acc => wdR_bind h fun v => wdR_go h n (acc.push v)
theorem wdR_times {r r' : Decoder α} (h : wdR w c d r r') (n : Nat) : wdR w c d (Reader.times n r) (Reader.times n r') := wdR_go h n #[]
theorem wd_bytes {w : ByteArray} {k n : Nat} (h : k + n ≤ w.size) : Reader.runAt (Reader.bytes n : Decoder ByteArray) w k = .ok (w.extract k (k + n), k + n) :=
  congrFun (congrFun (if_pos h : (ite (k + n ≤ w.size) (do set (k + n); pure (w.extract k (k + n)) : Decoder ByteArray) (throw (HasTruncated.truncated w.size))) = _) w) k
theorem wd_bytesn {w : ByteArray} {k n : Nat} (h : ¬ k + n ≤ w.size) : Reader.runAt (Reader.bytes n : Decoder ByteArray) w k = .error (.truncated w.size) :=
  congrFun (congrFun (if_neg h : (ite (k + n ≤ w.size) (do set (k + n); pure (w.extract k (k + n)) : Decoder ByteArray) (throw (HasTruncated.truncated w.size))) = _) w) k
theorem wd_pad (w : ByteArray) (k : Nat) : Reader.runAt Decoder.padding w k = Except.bind (Reader.runAt (Reader.bytes ((4 - k % 4) % 4) : Decoder ByteArray) w k) (fun p => .ok ((), p.2)) := rfl
theorem wdR_padding (H : wdH w c d) (hd : d % 4 = 0) (hd2 : d ≤ c.size) : wdR w c d Decoder.padding Decoder.padding := by
  intro k v k' e
  rw [wd_pad] at e
  by_cases h : k + (4 - k % 4) % 4 ≤ w.size
  · rw [wd_bytes h] at e
    have e1 : (Except.ok ((), k + (4 - k % 4) % 4) : Except DecodeError (Unit × Nat)) = .ok (v, k') := e
    cases e1
    have e2 : (4 - (d + k) % 4) % 4 = (4 - k % 4) % 4 := by omega
    have h2 : d + k + (4 - k % 4) % 4 ≤ c.size := by
      by_cases h0 : k + (4 - k % 4) % 4 = 0
      · omega
      · obtain ⟨h', -⟩ := H (k + (4 - k % 4) % 4 - 1) (by omega)
        omega
    rw [wd_pad, e2, wd_bytes h2, ← Nat.add_assoc]
    rfl
  · rw [wd_bytesn h] at e
    cases e
theorem wdR_ts (H : wdH w c d) (hd : d % 4 = 0) (hd2 : d ≤ c.size) (p p' : Nat) : wdR w c d (Decoder.tableswitch p) (Decoder.tableswitch p') :=
  wdR_bind (wdR_padding H hd hd2) fun _ => wdR_bind (wdR_s4 H) fun _ => wdR_bind (wdR_s4 H) fun _ => wdR_bind (wdR_s4 H) fun _ => wdR_ite _ (wdR_bind (wdR_times (wdR_s4 H) _) fun _ => wdR_pure _)
theorem wdR_na (H : wdH w c d) (p p' : Nat) : wdR w c d (Decoder.newarray p) (Decoder.newarray p') := by
  refine wdR_bind (wdR_u1 H) fun v => ?_
  split <;> first | exact wdR_pure _ | exact wdR_throw _
theorem wdR_ls (H : wdH w c d) (hd : d % 4 = 0) (hd2 : d ≤ c.size) (p p' : Nat) : wdR w c d (Decoder.lookupswitch p) (Decoder.lookupswitch p') :=
  wdR_bind (wdR_padding H hd hd2) fun _ => wdR_bind (wdR_s4 H) fun _ => wdR_bind (wdR_s4 H) fun _ => wdR_ite _ (wdR_bind (wdR_times (wdR_bind (wdR_s4 H) fun _ => wdR_bind (wdR_s4 H) fun _ => wdR_pure _) _) fun _ => wdR_ite _ (wdR_pure _))
theorem wdR_ii (H : wdH w c d) (p p' : Nat) : wdR w c d (Decoder.invokeinterface p) (Decoder.invokeinterface p') :=
  wdR_bind (wdR_u2 H) fun _ => wdR_bind (wdR_u1 H) fun _ => wdR_bind (wdR_u1 H) fun _ => wdR_ite _ (wdR_pure _)
theorem wdR_id (H : wdH w c d) (p p' : Nat) : wdR w c d (Decoder.invokedynamic p) (Decoder.invokedynamic p') :=
  wdR_bind (wdR_u2 H) fun _ => wdR_bind (wdR_u2 H) fun _ => wdR_ite _ (wdR_pure _)
theorem wdR_ma (H : wdH w c d) (p p' : Nat) : wdR w c d (Decoder.multianewarray p) (Decoder.multianewarray p') :=
  wdR_bind (wdR_u2 H) fun _ => wdR_bind (wdR_u1 H) fun _ => wdR_ite _ (wdR_pure _)
theorem wdR_wide (H : wdH w c d) (p p' : Nat) : wdR w c d (Decoder.wide p) (Decoder.wide p') := by
  refine wdR_bind (wdR_u1 H) fun v => ?_
  split <;> first | exact wdR_bind (wdR_u2 H) fun _ => wdR_pure _ | exact wdR_bind (wdR_u2 H) fun _ => wdR_bind (wdR_s2 H) fun _ => wdR_pure _ | exact wdR_throw _
set_option maxRecDepth 100000 in
theorem wdR_instr (H : wdH w c d) (hd : d % 4 = 0) (hd2 : d ≤ c.size) (p p' : Nat) : wdR w c d (Decoder.instr p) (Decoder.instr p') := by
  refine wdR_bind (wdR_u1 H) fun v => ?_
  split <;> first | exact wdR_pure _ | exact wdR_bind (wdR_u2 H) fun _ => wdR_pure _ | exact wdR_bind (wdR_s2 H) fun _ => wdR_pure _ | exact wdR_bind (wdR_u1 H) fun _ => wdR_pure _ | exact wdR_bind (wdR_s1 H) fun _ => wdR_pure _ | exact wdR_bind (wdR_s4 H) fun _ => wdR_pure _ | exact wdR_bind (wdR_u1 H) fun _ => wdR_bind (wdR_s1 H) fun _ => wdR_pure _ | exact wdR_throw _ | exact wdR_ts H hd hd2 _ _ | exact wdR_ls H hd hd2 _ _ | exact wdR_ii H _ _ | exact wdR_id H _ _ | exact wdR_na H _ _ | exact wdR_wide H _ _ | exact wdR_ma H _ _
theorem wd_decode (H : wdH w c d) (hd : d % 4 = 0) (hd2 : d ≤ c.size) {k : Nat} {r : Instr × Nat} (h : decode w k = .ok r) : decode c (d + k) = .ok r := by
  have e1 : Except.bind (Reader.runAt (Decoder.instr k) w k) (fun p => .ok (p.1, p.2 - k)) = .ok r := h
  cases hr : Reader.runAt (Decoder.instr k) w k with
  | error x => rw [hr] at e1; cases e1
  | ok p =>
    obtain ⟨a, k1⟩ := p
    rw [hr] at e1
    have e2 : (Except.ok (a, k1 - k) : Except DecodeError (Instr × Nat)) = .ok r := e1
    have e4 := wdR_instr H hd hd2 k (d + k) _ _ _ hr
    show Except.bind (Reader.runAt (Decoder.instr (d + k)) c (d + k)) (fun p => .ok (p.1, p.2 - (d + k))) = .ok r
    rw [e4, ← e2]
    show (Except.ok (a, d + k1 - (d + k)) : Except DecodeError (Instr × Nat)) = .ok (a, k1 - k)
    rw [Nat.add_sub_add_left]
end WIN
theorem wdH_drop (c : ByteArray) (d n : Nat) : wdH ⟨((c.data.toList.drop d).take n).toArray⟩ c d := by
  intro k h
  have h1 : k < ((c.data.toList.drop d).take n).length := h
  rw [List.length_take, List.length_drop] at h1
  have h2 : d + k < c.data.toList.length := by omega
  refine ⟨h2, ?_⟩
  have h3 : k < ((c.data.toList.drop d).take n).length := h
  have e1 : ((c.data.toList.drop d).take n)[k]'h3 = c.data.toList[d + k]'h2 := by
    rw [List.getElem_take, List.getElem_drop]
  exact e1.symm
/-- a method's bytes from d on, at most n -/
def lwW (y d n : Nat) : ByteArray := ⟨(((mM y).2.1.data.toList.drop d).take n).toArray⟩
/-- rows read in a window that begins at d -/
def mOkW (y d : Nat) (w : ByteArray) (a B : Nat) : Bool := (List.range B).all (fun i => match mF y (d + (a + i)) with
  | some e => decide (decode w (a + i) = .ok (e.1, e.2.1)) && mOkT y (d + (a + i)) e
  | none => true)
/-- a method's rows out of its windows -/
theorem wd_all {y nw N : Nat} (hN : N ≤ 64 * nw) (hs : 64 * nw ≤ (mM y).2.1.size + 64) (hb : ∀ p, N ≤ p → mF y p = none) (h : ∀ j, j < nw → ∃ n, mOkW y (64 * j) (lwW y (64 * j) n) 0 64 = true) : ∀ pc e, mF y pc = some e → mOkE y pc e = true := by
  intro pc e he
  by_cases hp : pc < N
  · obtain ⟨n, h1⟩ := h (pc / 64) (by omega)
    unfold mOkW at h1
    rw [List.all_eq_true] at h1
    have h2 := h1 (pc % 64) (List.mem_range.mpr (Nat.mod_lt _ (by omega)))
    have e1 : 64 * (pc / 64) + (0 + pc % 64) = pc := by omega
    rw [e1, he] at h2
    have h3 := Bool.and_eq_true_iff.mp h2
    have h4 := of_decide_eq_true h3.1
    have h5 := wd_decode (wdH_drop (mM y).2.1 (64 * (pc / 64)) n) (by omega) (by omega) h4
    rw [e1] at h5
    exact mOkE_of h5 h3.2
  · rw [hb pc (by omega)] at he
    cases he
