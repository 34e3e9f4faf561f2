/-! soundness of the machine of constructors: the walk -/
def ax_Nk (U : State) : Prop := ∀ q ∈ ax_KN, va_Nw (.methodLinkNest (am_cn q.1) q.2.1 (ax_yn q.2.2.1) q.2.2.2) U
/-- an object of the graph is of a known kind, its fields as many as that has -/
def ax_GK (G : List am_D) : Prop := ∀ (o ci : Nat) (fs : List Nat), am_at G o = some (4, ci, fs) → ci ∈ ax_ys ∧ fs.length = ax_nn ci ∧ ∀ b, (am_at fs b = some 0 → am_at (ax_df ci) b = some 0) ∧ (am_at fs b = some 3 → am_at (ax_df ci) b = some 3)
def ax_Z (S : ax_S) : Prop := ax_Z0 S ∧ ax_GK S.1
def ax_ws (y : Nat) : List Cond := ax_yw y :: am_TB
section AXW
variable {p : Program} {l : Launch} {e : Env} {R : Room} {s : State} {mi : MethodId} {args : Array Value} {below : List Frame} {meth : Method} {c : Code} {Q : State → Prop} {base : Nat} {dC : Nat → ClassId} {dI : Nat → Nat → Nat} {dA : Nat → ClassId} {A : Nat → Prop} {own : Nat} {cc : ByteArray} {Ts : List Cond} {n0 s0 : Nat} {St : Nat → State → Prop}
/-- from here the machine comes to a state with Q -/
def ax_Go (p : Program) (l : Launch) (e : Env) (R : Room) (s : State) (mi : MethodId) (args : Array Value) (below : List Frame) (meth : Method) (c : Code) (Q : State → Prop) (base : Nat) (dC : Nat → ClassId) (dI : Nat → Nat → Nat) (dA : Nat → ClassId) (A : Nat → Prop) (nL n0 s0 o0 pc : Nat) (st : List Value) (S : ax_S) : Prop :=
  ∀ (H : Heap) (locs : List Loc) (arr : Array Slot), am_LH base nL arr (some (.ref o0) :: List.replicate (nL - 1) none) → va_P (dC, dI) vwCl (ax_pw S.1 dA base S.2) H → va_D A (ax_pw S.1 dA base S.2) → va_S A s.heap H locs → W p l e R s mi args below meth c H locs (S.1.length - n0) (ax_sz S.1 - s0) Q (F0 mi pc arr (st.map (am_cv base)))
def ax_Pc (St : Nat → State → Prop) (base : Nat) (dC : Nat → ClassId) (dI : Nat → Nat → Nat) (dA : Nat → ClassId) (o : Nat) (S : ax_S) : Array Value → State → Prop := va_Pc [.ref (base + o)] (fun U => U.heap.size = base + S.1.length ∧ va_P (dC, dI) vwCl (ax_pw S.1 dA base S.2) U.heap ∧ va_K (dC, dI) vwCl (am_ty dA) U ∧ va_D (fun _ => True) (ax_pw S.1 dA base S.2) ∧ ax_Nk U ∧ St base U)
def ax_Qc (base : Nat) (dC : Nat → ClassId) (dI : Nat → Nat → Nat) (dA : Nat → ClassId) (A : Nat → Prop) (S' : ax_S) : Array Value → State → Outcome → State → Prop := fun _ st oc t => (oc = .returned none ∧ va_P (dC, dI) vwCl (ax_pw S'.1 dA base S'.2) t.heap) ∧ va_F A st t
def ax_rm (d mc ms : Nat) : Room := { frames := d, cells := mc, slots := ms, locals := 30 * d }
def ax_Ev (l : Launch) (St : Nat → State → Prop) (env : Nat → Nat → ax_S → Option ax_S) (d : Nat) : Prop := ∀ (y o : Nat) (S S' : ax_S), env y o S = some S' → ax_Z S → y < 13 ∧ (S.1.length ≤ S'.1.length ∧ ax_sz S.1 ≤ ax_sz S'.1 ∧ ax_Z S') ∧ o < S.1.length ∧ ∀ (base : Nat) (dC : Nat → ClassId) (dI : Nat → Nat → Nat) (dA : Nat → ClassId), Met l (ax_yn y) (ax_ws y) (ax_rm d (S'.1.length - S.1.length) (ax_sz S'.1 - ax_sz S.1)) (ax_Pc St base dC dI dA o S) (ax_Qc base dC dI dA (va_A (ax_pw S.1 dA base S.2) (base + S.1.length)) S') (S'.1.length - S.1.length) (ax_sz S'.1 - ax_sz S.1) (va_A (ax_pw S.1 dA base S.2) (base + S.1.length))
/-- what the frame around it gives -/
def ax_StOk (St : Nat → State → Prop) : Prop := (∀ b U (g : JFrame) (mk : MethodId) (a : Array Value), St b U → St b (U.calling g mk a)) ∧ ∀ b (s U : State), (∀ q, q < b → U.heap[q]? = s.heap[q]?) → s.WarmedH U.vm → St b s → St b U
theorem ax_blind {o : Nat} {S : ax_S} (hSt : ax_StOk St) : FrameBlind (ax_Pc St base dC dI dA o S) := by
  intro a U g mk h
  obtain ⟨e1, e2, hP, hK, hD, hN, hs⟩ := h
  exact ⟨e1, e2, hP, va_K.moved (u := U) (U := U.calling g mk a) (Vm.Alike.refl U.vm) hK, hD, fun q hq => va_Nw.same rfl rfl (hN q hq), hSt.1 _ _ _ _ _ hs⟩
theorem ax_good (hT : ∀ w ∈ am_TB, w ∈ Ts) {y : Nat} (hy : y ∈ ax_ys) : GoodIn Ts (ax_ws y) := by
  intro w hw
  have h1 : w ∈ am_TB := by
    rcases List.mem_cons.mp hw with rfl | h
    · exact ax_yw_ok y hy
    · exact h
  exact ⟨hT w h1, good_of_word (List.mem_filter.mp h1).2⟩
theorem ax_after {A1 free : Nat → Prop} {H : Heap} {locs : List Loc} {arr : Array Slot} {st0 rest : List Value} {a9 : Array Value} {S' : ax_S} {cells slots mc ms pc : Nat} (hr : va_Run p l e R s mi args below meth c H locs cells slots mc ms (F0 mi pc arr st0) rest (ax_Qc base dC dI dA A1 S' a9) free) (hS : va_S A s.heap H locs) (hA : ∀ q, q < H.size → A1 q → A q) (hf : ∀ q, free q → A q)
    (kk : ∀ (H1 : Heap) (locs1 : List Loc), va_P (dC, dI) vwCl (ax_pw S'.1 dA base S'.2) H1 → va_S A s.heap H1 locs1 → W p l e R s mi args below meth c H1 locs1 (cells + mc) (slots + ms) Q (F0 mi (pc + 3) arr rest)) : W p l e R s mi args below meth c H locs cells slots Q (F0 mi pc arr st0) := by
  intro T hT X
  obtain ⟨v, st₀, t, T', L, h0, X', hL, e1, e2, ⟨⟨hv, hP'⟩, hz, hk⟩, st⟩ := hr T hT X
  cases hv
  rw [h0] at hz hk
  obtain ⟨t2, a1, b1⟩ := kk T'.heap (locs ++ L) (by rw [e1]; exact hP')
    ⟨Nat.le_trans hS.1 (by rw [e1]; exact hz), fun q h1 h2 => by rw [e1, hk q (Nat.lt_of_lt_of_le h1 hS.1) (fun z => h2 (hA q (Nat.lt_of_lt_of_le h1 hS.1) z))]; exact hS.2.1 q h1 h2, fun q hq => by
      rcases List.mem_append.mp hq with h | h
      · exact hS.2.2 q h
      · exact hf _ (hL q h)⟩ T' rfl X'
  exact ⟨t2, st t2 a1, b1⟩
theorem ax_D_grow {S S' : ax_S} (hA : ∀ k, k < S'.1.length → A (base + k)) : va_D A (ax_pw S'.1 dA base S'.2) := by
  have key : ∀ (k : Nat) (q : Nat × va_E), (ax_pw S'.1 dA base S'.2)[k]? = some q → q.1 = base + k ∧ k < S'.1.length := by
    intro k q hq
    simp only [ax_pw, List.getElem?_mapIdx, Option.map_eq_some_iff] at hq
    obtain ⟨g, hg, rfl⟩ := hq
    exact ⟨rfl, (List.getElem?_eq_some_iff.mp hg).1⟩
  refine ⟨fun i j x y hi hj hxy => ?_, fun k q hq => ?_⟩
  · have h1 := (key i x hi).1
    have h2 := (key j y hj).1
    omega
  · rw [(key k q hq).1]
    exact hA k (key k q hq).2
theorem ax_sized {cells slots n : Nat} {H : Heap} {locs : List Loc} {g : JFrame} (h1 : s.heap.size + cells = n) (h2 : n ≤ H.size) (kk : H.size = n → W p l e R s mi args below meth c H locs cells slots Q g) : W p l e R s mi args below meth c H locs cells slots Q g := by
  intro T hT X
  have h3 : T.heap.size ≤ s.heap.size + cells := X.same.2.2.1
  rw [hT] at h3
  exact kk (by omega) T hT X
theorem ax_low {S : ax_S} {H : Heap} (hb : base ≤ H.size) (hP : va_P (dC, dI) vwCl (ax_pw S.1 dA base S.2) H) : base + S.1.length ≤ H.size := by
  rcases Nat.eq_zero_or_pos S.1.length with h | h
  · omega
  · have h1 : S.1.length - 1 < S.1.length := by omega
    have h2 : am_at S.1 (S.1.length - 1) = some (S.1[S.1.length - 1]) := by rw [am_at_eq]; exact List.getElem?_eq_getElem h1
    have h3 := (hP _ _ (ax_pw_get (dA := dA) (base := base) (m := S.2) h2)).lt
    dsimp only at h3
    omega
/-- what stands around a constructor's walk -/
def ax_Hy (p : Program) (l : Launch) (R : Room) (s : State) (mi : MethodId) (args : Array Value) (meth : Method) (c : Code) (base : Nat) (dC : Nat → ClassId) (dI : Nat → Nat → Nat) (dA : Nat → ClassId) (A : Nat → Prop) (own : Nat) (cc : ByteArray) (Ts : List Cond) (St : Nat → State → Prop) (env : Nat → Nat → ax_S → Option ax_S) (d nL n0 : Nat) : Prop :=
  am_Fr p s mi args c own cc nL dC dI dA Ts ∧ s.heap.size = base + n0 ∧ (∀ w ∈ am_TB, w ∈ Ts) ∧ ax_Nk s ∧ ax_StOk St ∧ St base s ∧ (∀ q, s.heap.size ≤ q → A q) ∧ (∀ q, A q → base ≤ q) ∧ meth.name = "<init>" ∧ (d = 0 → ∀ y o S, env y o S = none) ∧ (∀ d0, d = d0 + 1 → ax_Ev l St env d0) ∧ 1 ≤ R.frames ∧ d ≤ R.frames ∧ 30 ≤ R.locals ∧ 30 * d ≤ R.locals
end AXW
