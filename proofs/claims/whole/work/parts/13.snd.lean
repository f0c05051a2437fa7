section
/-! one instruction of the abstract machine is one of the machine -/
def aTb : List Jvm.Cond := lw_tbl.filter goodWord
def aSln : List Nat := aSTR.map List.length
def aSby : List (List Int32) := aSTR.map (fun l => l.map Int32.ofInt)
def aNst : List Jvm.Cond := lw_tbl.filter (fun w => match w with
  | .methodLinkNest _ _ _ _ => true
  | _ => false)
/-- what is given of the start: classes, texts, statics, the script -/
def aSta (b0 : Nat) (D : va_G) (cA : Nat → ClassId) (adK adV : Nat → Nat) (sc : Nat) (fv : Value) (sx : Int → Int) (sL : Int) (U : State) : Prop :=
  va_K D aCl (aTys cA) U ∧ (∀ w ∈ aNst, va_Nw w U) ∧ vk_S 16 aSln aSby adK adV (fun q => b0 ≤ q) U U.heap ∧
  (∀ t, t < 16 → vk_R (nth ("", 0, "") aSTN t).1 (nth ("", 0, "") aSTN t).2.1 (nth ("", 0, "") aSTN t).2.2 (adK t) U) ∧
  va_Z "java/lang/String" "COMPACT_STRINGS" "Z" (.int 1) (fun q => b0 ≤ q) U U.heap ∧ va_Z "jdk/internal/util/Preconditions" "SIOOBE_FORMATTER" "Ljava/util/function/BiFunction;" fv (fun q => b0 ≤ q) U U.heap ∧
  va_X sc sL.toNat (fun j => Int32.ofInt (sx j)) U U.heap ∧ (sc < b0 ∧ b0 ≤ U.heap.size) ∧ fv.category = 1
theorem aSta_mv {b0 : Nat} {D : va_G} {cA : Nat → ClassId} {adK adV : Nat → Nat} {sc : Nat} {fv : Value} {sx : Int → Int} {sL : Int} {s U : State} (h : aSta b0 D cA adK adV sc fv sx sL s) (hW : s.WarmedH U.vm) (hz : s.heap.size ≤ U.heap.size) (hH : ∀ q : Nat, q < b0 → U.heap[q]? = s.heap[q]?) : aSta b0 D cA adK adV sc fv sx sL U := by
  obtain ⟨h1, h2, h3, h4, h5, h6, h7, ⟨h8, h8b⟩, h9⟩ := h
  have hq : ∀ a : Nat, a < s.heap.size → ¬ b0 ≤ a → U.heap[a]? = s.heap[a]? := fun a _ hn => hH a (by omega)
  refine ⟨va_K.moved hW.alike h1, fun w hw => ?_, (h3.moved hW.alike).kept hq, fun t ht => (h4 t ht).warm hW, (h5.moved hW.alike).kept hq, (h6.moved hW.alike).kept hq, (h7.moved hW.alike).kept (hH sc h8), ⟨h8, Nat.le_trans h8b hz⟩, h9⟩
  have hm : w ∈ aNst := hw
  obtain ⟨-, h10⟩ := List.mem_filter.mp hw
  cases w <;> first | exact va_Nw.warmM hW (h2 _ hm) | (simp at h10)
theorem aSta_bl {b0 : Nat} {D : va_G} {cA : Nat → ClassId} {adK adV : Nat → Nat} {sc : Nat} {fv : Value} {sx : Int → Int} {sL : Int} {U V : State} (h : aSta b0 D cA adK adV sc fv sx sL U) (hv : V.vm = U.vm) (hh : V.heap = U.heap) : aSta b0 D cA adK adV sc fv sx sL V := by
  obtain ⟨h1, h2, h3, h4, h5, h6, h7, h8, h9⟩ := h
  have ha : U.vm.Alike V.vm := by rw [hv]; exact Vm.Alike.refl _
  refine ⟨va_K.moved ha h1, fun w hw => ?_, by rw [hh]; exact h3.moved ha, fun t ht => (h4 t ht).same hv, by rw [hh]; exact h5.moved ha, by rw [hh]; exact h6.moved ha, by rw [hh]; exact h7.moved ha, by rw [hh]; exact h8, h9⟩
  have hm : w ∈ aNst := hw
  obtain ⟨-, h10⟩ := List.mem_filter.mp hw
  cases w <;> first | exact (h2 _ hm).same rfl hv.symm | (simp at h10)
def aMc (ph : Bool) (j : Nat) : Nat := bif ph then 0 else (aMk j).1
def aMs (ph : Bool) (j : Nat) : Nat := bif ph then 0 else (aMk j).2
def aRm (ph : Bool) (d j : Nat) : Room := { frames := d, cells := aMc ph j, slots := aMs ph j, locals := 64 * d }
def aWd (j : Nat) : List Jvm.Cond := .code (aY j) (aB j) (aMl j) (aRy j) :: aTb
def aPc (b0 : Nat) (D : va_G) (cA : Nat → ClassId) (adK adV : Nat → Nat) (sc : Nat) (fv : Value) (sx : Int → Int) (sL : Int) (ph : Bool) (as : List aV) (σ : aW) : Array Value → State → Prop := fun v U =>
  v = (as.map (aCv b0 adK adV sc fv)).toArray ∧ aRel b0 D cA sx sL ph σ U.heap ∧ aSta b0 D cA adK adV sc fv sx sL U ∧ (ph = false → U.heap.size = b0 + aNn ph σ)
def aQc (b0 : Nat) (D : va_G) (cA : Nat → ClassId) (adK adV : Nat → Nat) (sc : Nat) (fv : Value) (sx : Int → Int) (sL : Int) (ph : Bool) (j : Nat) (σ : aW) (Q : aQ) : Array Value → State → Outcome → State → Prop := fun _ st o t =>
  ∃ (r : Option aV) (σ' : aW), o = .returned (r.map (aCv b0 adK adV sc fv)) ∧ Q r σ' ∧ aSo 0 r.toList ∧ aRel b0 D cA sx sL ph σ' t.heap ∧ (aNn ph σ' = aNn ph σ + aMc ph j ∧ aSl ph σ' = aSl ph σ + aMs ph j) ∧ (∀ q : Nat, q < b0 → t.heap[q]? = st.heap[q]?)
/-- a method keeps its contract -/
def aMet (l : Launch) (d : Nat) (ph : Bool) (j : Nat) (as : List aV) (σ : aW) (Q : aQ) : Prop :=
  ∀ (b0 : Nat) (D : va_G) (cA : Nat → ClassId) (adK adV : Nat → Nat) (sc : Nat) (fv : Value) (sx : Int → Int) (sL : Int), aSo (aNn ph σ) as → ((aArg as).length ≤ aMl j) →
    Met l (aY j) (aWd j) (aRm ph d j) (aPc b0 D cA adK adV sc fv sx sL ph as σ) (aQc b0 D cA adK adV sc fv sx sL ph j σ Q) (aMc ph j) (aMs ph j) (fun q => b0 ≤ q)
end
