/-! the law's side of a call of the reference's -/
section LB
variable {p : Program} {l : Launch} {e : Env} {R : Room} {s : State} {m : MethodId} {args : Array Value} {below : List Frame} {meth : Method} {c : Code} {H : Heap} {locs : List Loc} {cells slots : Nat} {Q : State → Prop}
variable {pc : Nat} {ls : Array Slot} {rest st0 : List Value} {D : va_G} {A : Nat → Prop} {tys : List (ClassId × FieldType)} {σ σ' : MS} {cB cI cZ : ClassId} {h qK qS : Nat} {ad : Nat → Nat} {X : va_W}
theorem lb_P {Y : va_W} (hP : va_P D vwCl (X ++ Y) H) : va_P D vwCl Y H := bx_P (bs := [X, Y]) (bs' := [Y]) hP fl_2 fl_1 [1] rfl
theorem lb_preV {As : List Value} (hK : va_K D vwCl tys s) (hP : va_P D vwCl (X ++ mW cB cI cZ h qK qS ad σ) H) (hS : va_S A s.heap H locs) (hE : g_E A s s.heap) (hF : ∀ q, mCells h ad H.size q → A q) (hKS : (∃ v : Nat, g_S qK v bytK A s s.heap) ∧ ∃ v : Nat, g_S qS v bytS A s s.heap) : PreV s H RX12 h (va_Pc (.ref h :: As) (m_B D tys H.size h ad qK qS (mW cB cI cZ h qK qS ad σ) g_0)) As :=
  ⟨m_blind g_bl0, va_recv (q := (RX12, TX12, 123)) hK (lb_P hP) (ci := 12) (q0 := 0) rfl rfl, fun U hU hW =>
    ⟨rfl, by rw [hU], by rw [hU]; exact lb_P hP, va_K.moved hW.alike hK, g_E.to hE hS hF hU hW, ⟨by obtain ⟨v, hv⟩ := hKS.1; exact ⟨v, g_S.to hv hS hF hU hW⟩, by obtain ⟨v, hv⟩ := hKS.2; exact ⟨v, g_S.to hv hS hF hU hW⟩⟩, trivial⟩⟩
theorem lb_X {H1 : Heap} (hP : va_P D vwCl (X ++ mW cB cI cZ h qK qS ad σ) H) (hD : va_D A (X ++ mW cB cI cZ h qK qS ad σ)) (hF : ∀ q, va_A (mW cB cI cZ h qK qS ad σ) H.size q → A q) (hmc : ∀ q, mCells h ad H.size q → va_A (mW cB cI cZ h qK qS ad σ) H.size q) (hDD : mDis cB cI cZ h qK qS ad) (hk : ∀ q : Nat, q < H.size → ¬ mCells h ad H.size q → H1[q]? = H[q]?) (hP1 : va_P D vwCl (mW cB cI cZ h qK qS ad σ') H1) : va_P D vwCl (X ++ mW cB cI cZ h qK qS ad σ') H1 :=
  (va_join hP hD (bx_ix [X, mW cB cI cZ h qK qS ad σ] [1]) (bx_ix [X, mW cB cI cZ h qK qS ad σ] [0]) (bx_C (bs := [X, mW cB cI cZ h qK qS ad σ]) (bs' := [mW cB cI cZ h qK qS ad σ]) (is := [1]) fl_2 fl_1 rfl) (bx_C (bs := [X, mW cB cI cZ h qK qS ad σ]) (bs' := [X]) (is := [0]) fl_2 fl_1 rfl) (bx_n (by decide +kernel)) (bx_d (by decide +kernel)) (fun q h1 h2 => hk q h1 (fun z => h2 (hmc q z))) hF hP1 ((hDD H.size σ').weaken (fun _ q _ z => hmc q.1 z))).1
theorem lb_ci {v : Int32} {a : Array Value} (hP : va_P D vwCl (X ++ mW cB cI cZ h qK qS ad σ) H) (hD : va_D A (X ++ mW cB cI cZ h qK qS ad σ)) (hS : va_S A s.heap H locs) (hF : ∀ q, va_A (mW cB cI cZ h qK qS ad σ) H.size q → A q) (hmc : ∀ q, mCells h ad H.size q → va_A (mW cB cI cZ h qK qS ad σ) H.size q) (hDD : mDis cB cI cZ h qK qS ad)
    (hr : va_Run p l e R s m args below meth c H locs cells slots 0 0 (F0 m pc ls st0) rest (va_Qi (fun r (_ : Unit) => r = v) (fun _ t => va_P D vwCl (mW cB cI cZ h qK qS ad σ') t.heap) (mCells h ad H.size) a) (mCells h ad H.size))
    (kk : ∀ (H1 : Heap) (locs1 : List Loc), va_P D vwCl (X ++ mW cB cI cZ h qK qS ad σ') H1 → va_S A s.heap H1 locs1 → W p l e R s m args below meth c H1 locs1 cells slots Q (F0 m (pc + 3) ls (.int v :: rest))) : W p l e R s m args below meth c H locs cells slots Q (F0 m pc ls st0) :=
  va_calli hr hS (fun q _ hq => hF q (hmc q hq)) (fun q hq => hF q (hmc q hq)) (fun r u t H1 locs1 ht _ hp hB _ hk1 hS1 => by
    rw [ht] at hB
    rw [hp]
    exact kk H1 locs1 (lb_X hP hD hF hmc hDD hk1 hB) hS1)
theorem lb_cv {a : Array Value} (hP : va_P D vwCl (X ++ mW cB cI cZ h qK qS ad σ) H) (hD : va_D A (X ++ mW cB cI cZ h qK qS ad σ)) (hS : va_S A s.heap H locs) (hF : ∀ q, va_A (mW cB cI cZ h qK qS ad σ) H.size q → A q) (hmc : ∀ q, mCells h ad H.size q → va_A (mW cB cI cZ h qK qS ad σ) H.size q) (hDD : mDis cB cI cZ h qK qS ad)
    (hr : va_Run p l e R s m args below meth c H locs cells slots 0 0 (F0 m pc ls st0) rest (va_Qv (fun (_ : Unit) => True) (fun _ t => va_P D vwCl (mW cB cI cZ h qK qS ad σ') t.heap) (mCells h ad H.size) a) (mCells h ad H.size))
    (kk : ∀ (H1 : Heap) (locs1 : List Loc), va_P D vwCl (X ++ mW cB cI cZ h qK qS ad σ') H1 → va_S A s.heap H1 locs1 → W p l e R s m args below meth c H1 locs1 cells slots Q (F0 m (pc + 3) ls rest)) : W p l e R s m args below meth c H locs cells slots Q (F0 m pc ls st0) :=
  va_callv hr hS (fun q _ hq => hF q (hmc q hq)) (fun q hq => hF q (hmc q hq)) (fun u t H1 locs1 ht _ hp hB _ hk1 hS1 => by
    rw [ht] at hB
    exact kk H1 locs1 (lb_X hP hD hF hmc hDD hk1 hB) hS1)
end LB
