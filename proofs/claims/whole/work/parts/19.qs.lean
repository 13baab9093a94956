theorem pq_gv {Ts : List Cond} {own K : String} {idx mx : Nat} {y : MethodName} {c : ByteArray} {rt : Option FieldType} (hs : ∀ w ∈ wsL_law, w ∈ Ts) (h1 : Cond.methodLink own idx y ∈ wsL_law) (h2 : Cond.instanceMethod y ∈ wsL_law) (h3 : Cond.selects K y y ∈ wsL_law) (h4 : Cond.initialized K ∈ wsL_law) (h5 : Cond.code y c mx rt ∈ wsL_law) : GoodIn Ts (wsV own idx K y (.code y c mx rt :: wsL_law)) := by
  intro w hw
  have hm : w ∈ wsL_law := by
    unfold wsV at hw
    rcases List.mem_append.mp hw with h | h
    · simp only [List.mem_cons, List.not_mem_nil, or_false] at h
      rcases h with rfl | rfl | rfl | rfl <;> assumption
    · rcases List.mem_cons.mp h with rfl | h
      · assumption
      · exact h
  exact ⟨hs w hm, (pq_inL w hm).2⟩
theorem pq_gs {Ts : List Cond} {own : String} {idx mx : Nat} {y : MethodName} {c : ByteArray} {rt : Option FieldType} (hs : ∀ w ∈ wsL_law, w ∈ Ts) (h1 : Cond.methodLink own idx y ∈ wsL_law) (h2 : Cond.static y ∈ wsL_law) (h4 : Cond.initialized y.cls ∈ wsL_law) (h5 : Cond.code y c mx rt ∈ wsL_law) : GoodIn Ts (va_wsS own idx y (.code y c mx rt :: wsL_law)) := by
  intro w hw
  have hm : w ∈ wsL_law := by
    unfold va_wsS at hw
    rcases List.mem_append.mp hw with h | h
    · simp only [List.mem_cons, List.not_mem_nil, or_false] at h
      rcases h with rfl | rfl | rfl <;> assumption
    · rcases List.mem_cons.mp h with rfl | h
      · assumption
      · exact h
  exact ⟨hs w hm, (pq_inL w hm).2⟩
theorem pq_gn {Ts : List Cond} {mx : Nat} {y : MethodName} {c : ByteArray} {rt : Option FieldType} (hs : ∀ w ∈ wsL_law, w ∈ Ts) (h5 : Cond.code y c mx rt ∈ wsL_law) : GoodIn Ts (.code y c mx rt :: wsL_law) := by
  intro w hw
  have hm : w ∈ wsL_law := by
    rcases List.mem_cons.mp hw with rfl | h
    · assumption
    · exact h
  exact ⟨hs w hm, (pq_inL w hm).2⟩
def qsX0_init : List Cond := .code yX0_init cX0_init 1 none :: wsL_law
theorem gnX0_init {Ts : List Cond} (hs : ∀ w ∈ wsL_law, w ∈ Ts) : GoodIn Ts qsX0_init := pq_gn hs (pq_m2 _ (List.mem_of_getElem? (i := 13) rfl))
def qsX0_begin : List Cond := .code yX0_begin cX0_begin 3 none :: wsL_law
theorem gnX0_begin {Ts : List Cond} (hs : ∀ w ∈ wsL_law, w ∈ Ts) : GoodIn Ts qsX0_begin := pq_gn hs (pq_m5 _ (List.mem_of_getElem? (i := 23) rfl))
theorem gvX0_begin {Ts : List Cond} {own : String} {idx : Nat} (hs : ∀ w ∈ wsL_law, w ∈ Ts) (h1 : Cond.methodLink own idx yX0_begin ∈ wsL_law) : GoodIn Ts (wsV own idx RX0 yX0_begin qsX0_begin) := pq_gv hs h1 (pq_m5 _ (List.mem_of_getElem? (i := 21) rfl)) (pq_m5 _ (List.mem_of_getElem? (i := 22) rfl)) (pq_m2 _ (List.mem_of_getElem? (i := 2) rfl)) (pq_m5 _ (List.mem_of_getElem? (i := 23) rfl))
def qsX0_number : List Cond := .code yX0_number cX0_number 2 (some .int) :: wsL_law
theorem gnX0_number {Ts : List Cond} (hs : ∀ w ∈ wsL_law, w ∈ Ts) : GoodIn Ts qsX0_number := pq_gn hs (pq_m25 _ (List.mem_of_getElem? (i := 9) rfl))
theorem gvX0_number {Ts : List Cond} {own : String} {idx : Nat} (hs : ∀ w ∈ wsL_law, w ∈ Ts) (h1 : Cond.methodLink own idx yX0_number ∈ wsL_law) : GoodIn Ts (wsV own idx RX0 yX0_number qsX0_number) := pq_gv hs h1 (pq_m25 _ (List.mem_of_getElem? (i := 7) rfl)) (pq_m25 _ (List.mem_of_getElem? (i := 8) rfl)) (pq_m2 _ (List.mem_of_getElem? (i := 2) rfl)) (pq_m25 _ (List.mem_of_getElem? (i := 9) rfl))
def qsX0_encode : List Cond := .code yX0_encode cX0_encode 3 (some .int) :: wsL_law
theorem gnX0_encode {Ts : List Cond} (hs : ∀ w ∈ wsL_law, w ∈ Ts) : GoodIn Ts qsX0_encode := pq_gn hs (pq_m11 _ (List.mem_of_getElem? (i := 12) rfl))
theorem gvX0_encode {Ts : List Cond} {own : String} {idx : Nat} (hs : ∀ w ∈ wsL_law, w ∈ Ts) (h1 : Cond.methodLink own idx yX0_encode ∈ wsL_law) : GoodIn Ts (wsV own idx RX0 yX0_encode qsX0_encode) := pq_gv hs h1 (pq_m11 _ (List.mem_of_getElem? (i := 10) rfl)) (pq_m11 _ (List.mem_of_getElem? (i := 11) rfl)) (pq_m2 _ (List.mem_of_getElem? (i := 2) rfl)) (pq_m11 _ (List.mem_of_getElem? (i := 12) rfl))
def qsX0_decode : List Cond := .code yX0_decode cX0_decode 2 (some .int) :: wsL_law
theorem gnX0_decode {Ts : List Cond} (hs : ∀ w ∈ wsL_law, w ∈ Ts) : GoodIn Ts qsX0_decode := pq_gn hs (pq_m22 _ (List.mem_of_getElem? (i := 5) rfl))
theorem gvX0_decode {Ts : List Cond} {own : String} {idx : Nat} (hs : ∀ w ∈ wsL_law, w ∈ Ts) (h1 : Cond.methodLink own idx yX0_decode ∈ wsL_law) : GoodIn Ts (wsV own idx RX0 yX0_decode qsX0_decode) := pq_gv hs h1 (pq_m22 _ (List.mem_of_getElem? (i := 3) rfl)) (pq_m22 _ (List.mem_of_getElem? (i := 4) rfl)) (pq_m2 _ (List.mem_of_getElem? (i := 2) rfl)) (pq_m22 _ (List.mem_of_getElem? (i := 5) rfl))
def qsX0_foresee : List Cond := .code yX0_foresee cX0_foresee 3 none :: wsL_law
theorem gnX0_foresee {Ts : List Cond} (hs : ∀ w ∈ wsL_law, w ∈ Ts) : GoodIn Ts qsX0_foresee := pq_gn hs (pq_m11 _ (List.mem_of_getElem? (i := 16) rfl))
theorem gvX0_foresee {Ts : List Cond} {own : String} {idx : Nat} (hs : ∀ w ∈ wsL_law, w ∈ Ts) (h1 : Cond.methodLink own idx yX0_foresee ∈ wsL_law) : GoodIn Ts (wsV own idx RX0 yX0_foresee qsX0_foresee) := pq_gv hs h1 (pq_m11 _ (List.mem_of_getElem? (i := 14) rfl)) (pq_m11 _ (List.mem_of_getElem? (i := 15) rfl)) (pq_m2 _ (List.mem_of_getElem? (i := 2) rfl)) (pq_m11 _ (List.mem_of_getElem? (i := 16) rfl))
def qsX0_stepNow : List Cond := .code yX0_stepNow cX0_stepNow 4 (some .int) :: wsL_law
theorem gnX0_stepNow {Ts : List Cond} (hs : ∀ w ∈ wsL_law, w ∈ Ts) : GoodIn Ts qsX0_stepNow := pq_gn hs (pq_m12 _ (List.mem_of_getElem? (i := 10) rfl))
theorem gvX0_stepNow {Ts : List Cond} {own : String} {idx : Nat} (hs : ∀ w ∈ wsL_law, w ∈ Ts) (h1 : Cond.methodLink own idx yX0_stepNow ∈ wsL_law) : GoodIn Ts (wsV own idx RX0 yX0_stepNow qsX0_stepNow) := pq_gv hs h1 (pq_m12 _ (List.mem_of_getElem? (i := 8) rfl)) (pq_m12 _ (List.mem_of_getElem? (i := 9) rfl)) (pq_m2 _ (List.mem_of_getElem? (i := 2) rfl)) (pq_m12 _ (List.mem_of_getElem? (i := 10) rfl))
def qsX0_codeOf : List Cond := .code yX0_codeOf cX0_codeOf 8 (some .int) :: wsL_law
theorem gnX0_codeOf {Ts : List Cond} (hs : ∀ w ∈ wsL_law, w ∈ Ts) : GoodIn Ts qsX0_codeOf := pq_gn hs (pq_m12 _ (List.mem_of_getElem? (i := 14) rfl))
theorem gvX0_codeOf {Ts : List Cond} {own : String} {idx : Nat} (hs : ∀ w ∈ wsL_law, w ∈ Ts) (h1 : Cond.methodLink own idx yX0_codeOf ∈ wsL_law) : GoodIn Ts (wsV own idx RX0 yX0_codeOf qsX0_codeOf) := pq_gv hs h1 (pq_m12 _ (List.mem_of_getElem? (i := 12) rfl)) (pq_m12 _ (List.mem_of_getElem? (i := 13) rfl)) (pq_m2 _ (List.mem_of_getElem? (i := 2) rfl)) (pq_m12 _ (List.mem_of_getElem? (i := 14) rfl))
def qsX0_settle : List Cond := .code yX0_settle cX0_settle 8 (some .int) :: wsL_law
theorem gnX0_settle {Ts : List Cond} (hs : ∀ w ∈ wsL_law, w ∈ Ts) : GoodIn Ts qsX0_settle := pq_gn hs (pq_m12 _ (List.mem_of_getElem? (i := 19) rfl))
theorem gvX0_settle {Ts : List Cond} {own : String} {idx : Nat} (hs : ∀ w ∈ wsL_law, w ∈ Ts) (h1 : Cond.methodLink own idx yX0_settle ∈ wsL_law) : GoodIn Ts (wsV own idx RX0 yX0_settle qsX0_settle) := pq_gv hs h1 (pq_m12 _ (List.mem_of_getElem? (i := 17) rfl)) (pq_m12 _ (List.mem_of_getElem? (i := 18) rfl)) (pq_m2 _ (List.mem_of_getElem? (i := 2) rfl)) (pq_m12 _ (List.mem_of_getElem? (i := 19) rfl))
def qsX0_tablePlace : List Cond := .code yX0_tablePlace cX0_tablePlace 5 (some .int) :: wsL_law
theorem gnX0_tablePlace {Ts : List Cond} (hs : ∀ w ∈ wsL_law, w ∈ Ts) : GoodIn Ts qsX0_tablePlace := pq_gn hs (pq_m13 _ (List.mem_of_getElem? (i := 2) rfl))
theorem gvX0_tablePlace {Ts : List Cond} {own : String} {idx : Nat} (hs : ∀ w ∈ wsL_law, w ∈ Ts) (h1 : Cond.methodLink own idx yX0_tablePlace ∈ wsL_law) : GoodIn Ts (wsV own idx RX0 yX0_tablePlace qsX0_tablePlace) := pq_gv hs h1 (pq_m13 _ (List.mem_of_getElem? (i := 0) rfl)) (pq_m13 _ (List.mem_of_getElem? (i := 1) rfl)) (pq_m2 _ (List.mem_of_getElem? (i := 2) rfl)) (pq_m13 _ (List.mem_of_getElem? (i := 2) rfl))
def qsX0_amount : List Cond := .code yX0_amount cX0_amount 1 (some .int) :: wsL_law
theorem gnX0_amount {Ts : List Cond} (hs : ∀ w ∈ wsL_law, w ∈ Ts) : GoodIn Ts qsX0_amount := pq_gn hs (pq_m13 _ (List.mem_of_getElem? (i := 5) rfl))
theorem gsX0_amount {Ts : List Cond} {own : String} {idx : Nat} (hs : ∀ w ∈ wsL_law, w ∈ Ts) (h1 : Cond.methodLink own idx yX0_amount ∈ wsL_law) : GoodIn Ts (va_wsS own idx yX0_amount qsX0_amount) := pq_gs hs h1 (pq_m13 _ (List.mem_of_getElem? (i := 4) rfl)) (pq_m2 _ (List.mem_of_getElem? (i := 2) rfl)) (pq_m13 _ (List.mem_of_getElem? (i := 5) rfl))
def qsX0_isTransition : List Cond := .code yX0_isTransition cX0_isTransition 4 (some .boolean) :: wsL_law
theorem gnX0_isTransition {Ts : List Cond} (hs : ∀ w ∈ wsL_law, w ∈ Ts) : GoodIn Ts qsX0_isTransition := pq_gn hs (pq_m13 _ (List.mem_of_getElem? (i := 9) rfl))
theorem gvX0_isTransition {Ts : List Cond} {own : String} {idx : Nat} (hs : ∀ w ∈ wsL_law, w ∈ Ts) (h1 : Cond.methodLink own idx yX0_isTransition ∈ wsL_law) : GoodIn Ts (wsV own idx RX0 yX0_isTransition qsX0_isTransition) := pq_gv hs h1 (pq_m13 _ (List.mem_of_getElem? (i := 7) rfl)) (pq_m13 _ (List.mem_of_getElem? (i := 8) rfl)) (pq_m2 _ (List.mem_of_getElem? (i := 2) rfl)) (pq_m13 _ (List.mem_of_getElem? (i := 9) rfl))
def qsX0_adaptStep : List Cond := .code yX0_adaptStep cX0_adaptStep 2 none :: wsL_law
theorem gnX0_adaptStep {Ts : List Cond} (hs : ∀ w ∈ wsL_law, w ∈ Ts) : GoodIn Ts qsX0_adaptStep := pq_gn hs (pq_m13 _ (List.mem_of_getElem? (i := 13) rfl))
theorem gvX0_adaptStep {Ts : List Cond} {own : String} {idx : Nat} (hs : ∀ w ∈ wsL_law, w ∈ Ts) (h1 : Cond.methodLink own idx yX0_adaptStep ∈ wsL_law) : GoodIn Ts (wsV own idx RX0 yX0_adaptStep qsX0_adaptStep) := pq_gv hs h1 (pq_m13 _ (List.mem_of_getElem? (i := 11) rfl)) (pq_m13 _ (List.mem_of_getElem? (i := 12) rfl)) (pq_m2 _ (List.mem_of_getElem? (i := 2) rfl)) (pq_m13 _ (List.mem_of_getElem? (i := 13) rfl))
def qsX0_forgetFilters : List Cond := .code yX0_forgetFilters cX0_forgetFilters 2 none :: wsL_law
theorem gnX0_forgetFilters {Ts : List Cond} (hs : ∀ w ∈ wsL_law, w ∈ Ts) : GoodIn Ts qsX0_forgetFilters := pq_gn hs (pq_m13 _ (List.mem_of_getElem? (i := 17) rfl))
theorem gvX0_forgetFilters {Ts : List Cond} {own : String} {idx : Nat} (hs : ∀ w ∈ wsL_law, w ∈ Ts) (h1 : Cond.methodLink own idx yX0_forgetFilters ∈ wsL_law) : GoodIn Ts (wsV own idx RX0 yX0_forgetFilters qsX0_forgetFilters) := pq_gv hs h1 (pq_m13 _ (List.mem_of_getElem? (i := 15) rfl)) (pq_m13 _ (List.mem_of_getElem? (i := 16) rfl)) (pq_m2 _ (List.mem_of_getElem? (i := 2) rfl)) (pq_m13 _ (List.mem_of_getElem? (i := 17) rfl))
def qsX0_adaptA2 : List Cond := .code yX0_adaptA2 cX0_adaptA2 5 none :: wsL_law
theorem gnX0_adaptA2 {Ts : List Cond} (hs : ∀ w ∈ wsL_law, w ∈ Ts) : GoodIn Ts qsX0_adaptA2 := pq_gn hs (pq_m13 _ (List.mem_of_getElem? (i := 21) rfl))
theorem gvX0_adaptA2 {Ts : List Cond} {own : String} {idx : Nat} (hs : ∀ w ∈ wsL_law, w ∈ Ts) (h1 : Cond.methodLink own idx yX0_adaptA2 ∈ wsL_law) : GoodIn Ts (wsV own idx RX0 yX0_adaptA2 qsX0_adaptA2) := pq_gv hs h1 (pq_m13 _ (List.mem_of_getElem? (i := 19) rfl)) (pq_m13 _ (List.mem_of_getElem? (i := 20) rfl)) (pq_m2 _ (List.mem_of_getElem? (i := 2) rfl)) (pq_m13 _ (List.mem_of_getElem? (i := 21) rfl))
def qsX0_nudgedA2 : List Cond := .code yX0_nudgedA2 cX0_nudgedA2 2 (some .int) :: wsL_law
theorem gnX0_nudgedA2 {Ts : List Cond} (hs : ∀ w ∈ wsL_law, w ∈ Ts) : GoodIn Ts qsX0_nudgedA2 := pq_gn hs (pq_m14 _ (List.mem_of_getElem? (i := 0) rfl))
theorem gsX0_nudgedA2 {Ts : List Cond} {own : String} {idx : Nat} (hs : ∀ w ∈ wsL_law, w ∈ Ts) (h1 : Cond.methodLink own idx yX0_nudgedA2 ∈ wsL_law) : GoodIn Ts (va_wsS own idx yX0_nudgedA2 qsX0_nudgedA2) := pq_gs hs h1 (pq_m13 _ (List.mem_of_getElem? (i := 23) rfl)) (pq_m2 _ (List.mem_of_getElem? (i := 2) rfl)) (pq_m14 _ (List.mem_of_getElem? (i := 0) rfl))
def qsX0_adaptA1 : List Cond := .code yX0_adaptA1 cX0_adaptA1 4 none :: wsL_law
theorem gnX0_adaptA1 {Ts : List Cond} (hs : ∀ w ∈ wsL_law, w ∈ Ts) : GoodIn Ts qsX0_adaptA1 := pq_gn hs (pq_m14 _ (List.mem_of_getElem? (i := 4) rfl))
theorem gvX0_adaptA1 {Ts : List Cond} {own : String} {idx : Nat} (hs : ∀ w ∈ wsL_law, w ∈ Ts) (h1 : Cond.methodLink own idx yX0_adaptA1 ∈ wsL_law) : GoodIn Ts (wsV own idx RX0 yX0_adaptA1 qsX0_adaptA1) := pq_gv hs h1 (pq_m14 _ (List.mem_of_getElem? (i := 2) rfl)) (pq_m14 _ (List.mem_of_getElem? (i := 3) rfl)) (pq_m2 _ (List.mem_of_getElem? (i := 2) rfl)) (pq_m14 _ (List.mem_of_getElem? (i := 4) rfl))
def qsX0_adaptZeros : List Cond := .code yX0_adaptZeros cX0_adaptZeros 6 none :: wsL_law
theorem gnX0_adaptZeros {Ts : List Cond} (hs : ∀ w ∈ wsL_law, w ∈ Ts) : GoodIn Ts qsX0_adaptZeros := pq_gn hs (pq_m14 _ (List.mem_of_getElem? (i := 8) rfl))
theorem gvX0_adaptZeros {Ts : List Cond} {own : String} {idx : Nat} (hs : ∀ w ∈ wsL_law, w ∈ Ts) (h1 : Cond.methodLink own idx yX0_adaptZeros ∈ wsL_law) : GoodIn Ts (wsV own idx RX0 yX0_adaptZeros qsX0_adaptZeros) := pq_gv hs h1 (pq_m14 _ (List.mem_of_getElem? (i := 6) rfl)) (pq_m14 _ (List.mem_of_getElem? (i := 7) rfl)) (pq_m2 _ (List.mem_of_getElem? (i := 2) rfl)) (pq_m14 _ (List.mem_of_getElem? (i := 8) rfl))
def qsX0_remember : List Cond := .code yX0_remember cX0_remember 5 none :: wsL_law
theorem gnX0_remember {Ts : List Cond} (hs : ∀ w ∈ wsL_law, w ∈ Ts) : GoodIn Ts qsX0_remember := pq_gn hs (pq_m14 _ (List.mem_of_getElem? (i := 16) rfl))
theorem gvX0_remember {Ts : List Cond} {own : String} {idx : Nat} (hs : ∀ w ∈ wsL_law, w ∈ Ts) (h1 : Cond.methodLink own idx yX0_remember ∈ wsL_law) : GoodIn Ts (wsV own idx RX0 yX0_remember qsX0_remember) := pq_gv hs h1 (pq_m14 _ (List.mem_of_getElem? (i := 14) rfl)) (pq_m14 _ (List.mem_of_getElem? (i := 15) rfl)) (pq_m2 _ (List.mem_of_getElem? (i := 2) rfl)) (pq_m14 _ (List.mem_of_getElem? (i := 16) rfl))
def qsX0_adaptPace : List Cond := .code yX0_adaptPace cX0_adaptPace 4 none :: wsL_law
theorem gnX0_adaptPace {Ts : List Cond} (hs : ∀ w ∈ wsL_law, w ∈ Ts) : GoodIn Ts qsX0_adaptPace := pq_gn hs (pq_m14 _ (List.mem_of_getElem? (i := 20) rfl))
theorem gvX0_adaptPace {Ts : List Cond} {own : String} {idx : Nat} (hs : ∀ w ∈ wsL_law, w ∈ Ts) (h1 : Cond.methodLink own idx yX0_adaptPace ∈ wsL_law) : GoodIn Ts (wsV own idx RX0 yX0_adaptPace qsX0_adaptPace) := pq_gv hs h1 (pq_m14 _ (List.mem_of_getElem? (i := 18) rfl)) (pq_m14 _ (List.mem_of_getElem? (i := 19) rfl)) (pq_m2 _ (List.mem_of_getElem? (i := 2) rfl)) (pq_m14 _ (List.mem_of_getElem? (i := 20) rfl))
def qsX0_size : List Cond := .code yX0_size cX0_size 2 (some .int) :: wsL_law
theorem gnX0_size {Ts : List Cond} (hs : ∀ w ∈ wsL_law, w ∈ Ts) : GoodIn Ts qsX0_size := pq_gn hs (pq_m12 _ (List.mem_of_getElem? (i := 1) rfl))
theorem gsX0_size {Ts : List Cond} {own : String} {idx : Nat} (hs : ∀ w ∈ wsL_law, w ∈ Ts) (h1 : Cond.methodLink own idx yX0_size ∈ wsL_law) : GoodIn Ts (va_wsS own idx yX0_size qsX0_size) := pq_gs hs h1 (pq_m12 _ (List.mem_of_getElem? (i := 0) rfl)) (pq_m2 _ (List.mem_of_getElem? (i := 2) rfl)) (pq_m12 _ (List.mem_of_getElem? (i := 1) rfl))
def qsX0_times : List Cond := .code yX0_times cX0_times 8 (some .int) :: wsL_law
theorem gnX0_times {Ts : List Cond} (hs : ∀ w ∈ wsL_law, w ∈ Ts) : GoodIn Ts qsX0_times := pq_gn hs (pq_m11 _ (List.mem_of_getElem? (i := 19) rfl))
theorem gsX0_times {Ts : List Cond} {own : String} {idx : Nat} (hs : ∀ w ∈ wsL_law, w ∈ Ts) (h1 : Cond.methodLink own idx yX0_times ∈ wsL_law) : GoodIn Ts (va_wsS own idx yX0_times qsX0_times) := pq_gs hs h1 (pq_m11 _ (List.mem_of_getElem? (i := 18) rfl)) (pq_m2 _ (List.mem_of_getElem? (i := 2) rfl)) (pq_m11 _ (List.mem_of_getElem? (i := 19) rfl))
def qsX0_shifted : List Cond := .code yX0_shifted cX0_shifted 2 (some .int) :: wsL_law
theorem gnX0_shifted {Ts : List Cond} (hs : ∀ w ∈ wsL_law, w ∈ Ts) : GoodIn Ts qsX0_shifted := pq_gn hs (pq_m12 _ (List.mem_of_getElem? (i := 4) rfl))
theorem gsX0_shifted {Ts : List Cond} {own : String} {idx : Nat} (hs : ∀ w ∈ wsL_law, w ∈ Ts) (h1 : Cond.methodLink own idx yX0_shifted ∈ wsL_law) : GoodIn Ts (va_wsS own idx yX0_shifted qsX0_shifted) := pq_gs hs h1 (pq_m12 _ (List.mem_of_getElem? (i := 3) rfl)) (pq_m2 _ (List.mem_of_getElem? (i := 2) rfl)) (pq_m12 _ (List.mem_of_getElem? (i := 4) rfl))
def qsX0_floatOf : List Cond := .code yX0_floatOf cX0_floatOf 4 (some .int) :: wsL_law
theorem gnX0_floatOf {Ts : List Cond} (hs : ∀ w ∈ wsL_law, w ∈ Ts) : GoodIn Ts qsX0_floatOf := pq_gn hs (pq_m14 _ (List.mem_of_getElem? (i := 11) rfl))
theorem gsX0_floatOf {Ts : List Cond} {own : String} {idx : Nat} (hs : ∀ w ∈ wsL_law, w ∈ Ts) (h1 : Cond.methodLink own idx yX0_floatOf ∈ wsL_law) : GoodIn Ts (va_wsS own idx yX0_floatOf qsX0_floatOf) := pq_gs hs h1 (pq_m14 _ (List.mem_of_getElem? (i := 10) rfl)) (pq_m2 _ (List.mem_of_getElem? (i := 2) rfl)) (pq_m14 _ (List.mem_of_getElem? (i := 11) rfl))
def qsX1_init : List Cond := .code yX1_init cX1_init 1 none :: wsL_law
theorem gnX1_init {Ts : List Cond} (hs : ∀ w ∈ wsL_law, w ∈ Ts) : GoodIn Ts qsX1_init := pq_gn hs (pq_m3 _ (List.mem_of_getElem? (i := 8) rfl))
def qsX1_begin : List Cond := .code yX1_begin cX1_begin 3 none :: wsL_law
theorem gnX1_begin {Ts : List Cond} (hs : ∀ w ∈ wsL_law, w ∈ Ts) : GoodIn Ts qsX1_begin := pq_gn hs (pq_m6 _ (List.mem_of_getElem? (i := 12) rfl))
theorem gvX1_begin {Ts : List Cond} {own : String} {idx : Nat} (hs : ∀ w ∈ wsL_law, w ∈ Ts) (h1 : Cond.methodLink own idx yX1_begin ∈ wsL_law) : GoodIn Ts (wsV own idx RX1 yX1_begin qsX1_begin) := pq_gv hs h1 (pq_m6 _ (List.mem_of_getElem? (i := 10) rfl)) (pq_m6 _ (List.mem_of_getElem? (i := 11) rfl)) (pq_m3 _ (List.mem_of_getElem? (i := 2) rfl)) (pq_m6 _ (List.mem_of_getElem? (i := 12) rfl))
def qsX1_number : List Cond := .code yX1_number cX1_number 2 (some .int) :: wsL_law
theorem gnX1_number {Ts : List Cond} (hs : ∀ w ∈ wsL_law, w ∈ Ts) : GoodIn Ts qsX1_number := pq_gn hs (pq_m25 _ (List.mem_of_getElem? (i := 4) rfl))
theorem gvX1_number {Ts : List Cond} {own : String} {idx : Nat} (hs : ∀ w ∈ wsL_law, w ∈ Ts) (h1 : Cond.methodLink own idx yX1_number ∈ wsL_law) : GoodIn Ts (wsV own idx RX1 yX1_number qsX1_number) := pq_gv hs h1 (pq_m25 _ (List.mem_of_getElem? (i := 2) rfl)) (pq_m25 _ (List.mem_of_getElem? (i := 3) rfl)) (pq_m3 _ (List.mem_of_getElem? (i := 2) rfl)) (pq_m25 _ (List.mem_of_getElem? (i := 4) rfl))
def qsX1_error : List Cond := .code yX1_error cX1_error 2 (some .int) :: wsL_law
theorem gnX1_error {Ts : List Cond} (hs : ∀ w ∈ wsL_law, w ∈ Ts) : GoodIn Ts qsX1_error := pq_gn hs (pq_m8 _ (List.mem_of_getElem? (i := 20) rfl))
theorem gvX1_error {Ts : List Cond} {own : String} {idx : Nat} (hs : ∀ w ∈ wsL_law, w ∈ Ts) (h1 : Cond.methodLink own idx yX1_error ∈ wsL_law) : GoodIn Ts (wsV own idx RX1 yX1_error qsX1_error) := pq_gv hs h1 (pq_m8 _ (List.mem_of_getElem? (i := 18) rfl)) (pq_m8 _ (List.mem_of_getElem? (i := 19) rfl)) (pq_m3 _ (List.mem_of_getElem? (i := 2) rfl)) (pq_m8 _ (List.mem_of_getElem? (i := 20) rfl))
def qsX1_scaled : List Cond := .code yX1_scaled cX1_scaled 2 (some .int) :: wsL_law
theorem gnX1_scaled {Ts : List Cond} (hs : ∀ w ∈ wsL_law, w ∈ Ts) : GoodIn Ts qsX1_scaled := pq_gn hs (pq_m9 _ (List.mem_of_getElem? (i := 7) rfl))
theorem gvX1_scaled {Ts : List Cond} {own : String} {idx : Nat} (hs : ∀ w ∈ wsL_law, w ∈ Ts) (h1 : Cond.methodLink own idx yX1_scaled ∈ wsL_law) : GoodIn Ts (wsV own idx RX1 yX1_scaled qsX1_scaled) := pq_gv hs h1 (pq_m9 _ (List.mem_of_getElem? (i := 5) rfl)) (pq_m9 _ (List.mem_of_getElem? (i := 6) rfl)) (pq_m3 _ (List.mem_of_getElem? (i := 2) rfl)) (pq_m9 _ (List.mem_of_getElem? (i := 7) rfl))
def qsX1_heard : List Cond := .code yX1_heard cX1_heard 2 (some .int) :: wsL_law
theorem gnX1_heard {Ts : List Cond} (hs : ∀ w ∈ wsL_law, w ∈ Ts) : GoodIn Ts qsX1_heard := pq_gn hs (pq_m22 _ (List.mem_of_getElem? (i := 1) rfl))
theorem gvX1_heard {Ts : List Cond} {own : String} {idx : Nat} (hs : ∀ w ∈ wsL_law, w ∈ Ts) (h1 : Cond.methodLink own idx yX1_heard ∈ wsL_law) : GoodIn Ts (wsV own idx RX1 yX1_heard qsX1_heard) := pq_gv hs h1 (pq_m21 _ (List.mem_of_getElem? (i := 23) rfl)) (pq_m22 _ (List.mem_of_getElem? (i := 0) rfl)) (pq_m3 _ (List.mem_of_getElem? (i := 2) rfl)) (pq_m22 _ (List.mem_of_getElem? (i := 1) rfl))
def qsX1_difference : List Cond := .code yX1_difference cX1_difference 2 (some .int) :: wsL_law
theorem gnX1_difference {Ts : List Cond} (hs : ∀ w ∈ wsL_law, w ∈ Ts) : GoodIn Ts qsX1_difference := pq_gn hs (pq_m10 _ (List.mem_of_getElem? (i := 3) rfl))
theorem gvX1_difference {Ts : List Cond} {own : String} {idx : Nat} (hs : ∀ w ∈ wsL_law, w ∈ Ts) (h1 : Cond.methodLink own idx yX1_difference ∈ wsL_law) : GoodIn Ts (wsV own idx RX1 yX1_difference qsX1_difference) := pq_gv hs h1 (pq_m10 _ (List.mem_of_getElem? (i := 1) rfl)) (pq_m10 _ (List.mem_of_getElem? (i := 2) rfl)) (pq_m3 _ (List.mem_of_getElem? (i := 2) rfl)) (pq_m10 _ (List.mem_of_getElem? (i := 3) rfl))
def qsX1_settle : List Cond := .code yX1_settle cX1_settle 10 none :: wsL_law
theorem gnX1_settle {Ts : List Cond} (hs : ∀ w ∈ wsL_law, w ∈ Ts) : GoodIn Ts qsX1_settle := pq_gn hs (pq_m9 _ (List.mem_of_getElem? (i := 23) rfl))
theorem gvX1_settle {Ts : List Cond} {own : String} {idx : Nat} (hs : ∀ w ∈ wsL_law, w ∈ Ts) (h1 : Cond.methodLink own idx yX1_settle ∈ wsL_law) : GoodIn Ts (wsV own idx RX1 yX1_settle qsX1_settle) := pq_gv hs h1 (pq_m9 _ (List.mem_of_getElem? (i := 21) rfl)) (pq_m9 _ (List.mem_of_getElem? (i := 22) rfl)) (pq_m3 _ (List.mem_of_getElem? (i := 2) rfl)) (pq_m9 _ (List.mem_of_getElem? (i := 23) rfl))
def qsX1_adaptScale : List Cond := .code yX1_adaptScale cX1_adaptScale 7 none :: wsL_law
theorem gnX1_adaptScale {Ts : List Cond} (hs : ∀ w ∈ wsL_law, w ∈ Ts) : GoodIn Ts qsX1_adaptScale := pq_gn hs (pq_m10 _ (List.mem_of_getElem? (i := 7) rfl))
theorem gvX1_adaptScale {Ts : List Cond} {own : String} {idx : Nat} (hs : ∀ w ∈ wsL_law, w ∈ Ts) (h1 : Cond.methodLink own idx yX1_adaptScale ∈ wsL_law) : GoodIn Ts (wsV own idx RX1 yX1_adaptScale qsX1_adaptScale) := pq_gv hs h1 (pq_m10 _ (List.mem_of_getElem? (i := 5) rfl)) (pq_m10 _ (List.mem_of_getElem? (i := 6) rfl)) (pq_m3 _ (List.mem_of_getElem? (i := 2) rfl)) (pq_m10 _ (List.mem_of_getElem? (i := 7) rfl))
def qsX1_product : List Cond := .code yX1_product cX1_product 3 (some .int) :: wsL_law
theorem gnX1_product {Ts : List Cond} (hs : ∀ w ∈ wsL_law, w ∈ Ts) : GoodIn Ts qsX1_product := pq_gn hs (pq_m11 _ (List.mem_of_getElem? (i := 8) rfl))
theorem gvX1_product {Ts : List Cond} {own : String} {idx : Nat} (hs : ∀ w ∈ wsL_law, w ∈ Ts) (h1 : Cond.methodLink own idx yX1_product ∈ wsL_law) : GoodIn Ts (wsV own idx RX1 yX1_product qsX1_product) := pq_gv hs h1 (pq_m11 _ (List.mem_of_getElem? (i := 6) rfl)) (pq_m11 _ (List.mem_of_getElem? (i := 7) rfl)) (pq_m3 _ (List.mem_of_getElem? (i := 2) rfl)) (pq_m11 _ (List.mem_of_getElem? (i := 8) rfl))
def qsX1_adaptPoles : List Cond := .code yX1_adaptPoles cX1_adaptPoles 8 none :: wsL_law
theorem gnX1_adaptPoles {Ts : List Cond} (hs : ∀ w ∈ wsL_law, w ∈ Ts) : GoodIn Ts qsX1_adaptPoles := pq_gn hs (pq_m10 _ (List.mem_of_getElem? (i := 14) rfl))
theorem gvX1_adaptPoles {Ts : List Cond} {own : String} {idx : Nat} (hs : ∀ w ∈ wsL_law, w ∈ Ts) (h1 : Cond.methodLink own idx yX1_adaptPoles ∈ wsL_law) : GoodIn Ts (wsV own idx RX1 yX1_adaptPoles qsX1_adaptPoles) := pq_gv hs h1 (pq_m10 _ (List.mem_of_getElem? (i := 12) rfl)) (pq_m10 _ (List.mem_of_getElem? (i := 13) rfl)) (pq_m3 _ (List.mem_of_getElem? (i := 2) rfl)) (pq_m10 _ (List.mem_of_getElem? (i := 14) rfl))
def qsX1_adaptZeros : List Cond := .code yX1_adaptZeros cX1_adaptZeros 4 none :: wsL_law
theorem gnX1_adaptZeros {Ts : List Cond} (hs : ∀ w ∈ wsL_law, w ∈ Ts) : GoodIn Ts qsX1_adaptZeros := pq_gn hs (pq_m11 _ (List.mem_of_getElem? (i := 0) rfl))
theorem gvX1_adaptZeros {Ts : List Cond} {own : String} {idx : Nat} (hs : ∀ w ∈ wsL_law, w ∈ Ts) (h1 : Cond.methodLink own idx yX1_adaptZeros ∈ wsL_law) : GoodIn Ts (wsV own idx RX1 yX1_adaptZeros qsX1_adaptZeros) := pq_gv hs h1 (pq_m10 _ (List.mem_of_getElem? (i := 22) rfl)) (pq_m10 _ (List.mem_of_getElem? (i := 23) rfl)) (pq_m3 _ (List.mem_of_getElem? (i := 2) rfl)) (pq_m11 _ (List.mem_of_getElem? (i := 0) rfl))
def qsX1_remember : List Cond := .code yX1_remember cX1_remember 5 none :: wsL_law
theorem gnX1_remember {Ts : List Cond} (hs : ∀ w ∈ wsL_law, w ∈ Ts) : GoodIn Ts qsX1_remember := pq_gn hs (pq_m11 _ (List.mem_of_getElem? (i := 4) rfl))
theorem gvX1_remember {Ts : List Cond} {own : String} {idx : Nat} (hs : ∀ w ∈ wsL_law, w ∈ Ts) (h1 : Cond.methodLink own idx yX1_remember ∈ wsL_law) : GoodIn Ts (wsV own idx RX1 yX1_remember qsX1_remember) := pq_gv hs h1 (pq_m11 _ (List.mem_of_getElem? (i := 2) rfl)) (pq_m11 _ (List.mem_of_getElem? (i := 3) rfl)) (pq_m3 _ (List.mem_of_getElem? (i := 2) rfl)) (pq_m11 _ (List.mem_of_getElem? (i := 4) rfl))
def qsX2_init : List Cond := .code yX2_init cX2_init 1 none :: wsL_law
theorem gnX2_init {Ts : List Cond} (hs : ∀ w ∈ wsL_law, w ∈ Ts) : GoodIn Ts qsX2_init := pq_gn hs (pq_m3 _ (List.mem_of_getElem? (i := 12) rfl))
def qsX2_needed : List Cond := .code yX2_needed cX2_needed 1 (some .int) :: wsL_law
theorem gnX2_needed {Ts : List Cond} (hs : ∀ w ∈ wsL_law, w ∈ Ts) : GoodIn Ts qsX2_needed := pq_gn hs (pq_m28 _ (List.mem_of_getElem? (i := 10) rfl))
theorem gsX2_needed {Ts : List Cond} {own : String} {idx : Nat} (hs : ∀ w ∈ wsL_law, w ∈ Ts) (h1 : Cond.methodLink own idx yX2_needed ∈ wsL_law) : GoodIn Ts (va_wsS own idx yX2_needed qsX2_needed) := pq_gs hs h1 (pq_m28 _ (List.mem_of_getElem? (i := 9) rfl)) (pq_m1 _ (List.mem_of_getElem? (i := 18) rfl)) (pq_m28 _ (List.mem_of_getElem? (i := 10) rfl))
def qsX2_byteAt : List Cond := .code yX2_byteAt cX2_byteAt 2 (some .int) :: wsL_law
theorem gnX2_byteAt {Ts : List Cond} (hs : ∀ w ∈ wsL_law, w ∈ Ts) : GoodIn Ts qsX2_byteAt := pq_gn hs (pq_m27 _ (List.mem_of_getElem? (i := 16) rfl))
theorem gvX2_byteAt {Ts : List Cond} {own : String} {idx : Nat} (hs : ∀ w ∈ wsL_law, w ∈ Ts) (h1 : Cond.methodLink own idx yX2_byteAt ∈ wsL_law) : GoodIn Ts (wsV own idx RX2 yX2_byteAt qsX2_byteAt) := pq_gv hs h1 (pq_m27 _ (List.mem_of_getElem? (i := 14) rfl)) (pq_m27 _ (List.mem_of_getElem? (i := 15) rfl)) (pq_m1 _ (List.mem_of_getElem? (i := 18) rfl)) (pq_m27 _ (List.mem_of_getElem? (i := 16) rfl))
def qsX2_add : List Cond := .code yX2_add cX2_add 2 none :: wsL_law
theorem gnX2_add {Ts : List Cond} (hs : ∀ w ∈ wsL_law, w ∈ Ts) : GoodIn Ts qsX2_add := pq_gn hs (pq_m26 _ (List.mem_of_getElem? (i := 2) rfl))
theorem gvX2_add {Ts : List Cond} {own : String} {idx : Nat} (hs : ∀ w ∈ wsL_law, w ∈ Ts) (h1 : Cond.methodLink own idx yX2_add ∈ wsL_law) : GoodIn Ts (wsV own idx RX2 yX2_add qsX2_add) := pq_gv hs h1 (pq_m26 _ (List.mem_of_getElem? (i := 0) rfl)) (pq_m26 _ (List.mem_of_getElem? (i := 1) rfl)) (pq_m1 _ (List.mem_of_getElem? (i := 18) rfl)) (pq_m26 _ (List.mem_of_getElem? (i := 2) rfl))
def qsX2_addInt : List Cond := .code yX2_addInt cX2_addInt 2 none :: wsL_law
theorem gnX2_addInt {Ts : List Cond} (hs : ∀ w ∈ wsL_law, w ∈ Ts) : GoodIn Ts qsX2_addInt := pq_gn hs (pq_m25 _ (List.mem_of_getElem? (i := 22) rfl))
theorem gvX2_addInt {Ts : List Cond} {own : String} {idx : Nat} (hs : ∀ w ∈ wsL_law, w ∈ Ts) (h1 : Cond.methodLink own idx yX2_addInt ∈ wsL_law) : GoodIn Ts (wsV own idx RX2 yX2_addInt qsX2_addInt) := pq_gv hs h1 (pq_m25 _ (List.mem_of_getElem? (i := 20) rfl)) (pq_m25 _ (List.mem_of_getElem? (i := 21) rfl)) (pq_m1 _ (List.mem_of_getElem? (i := 18) rfl)) (pq_m25 _ (List.mem_of_getElem? (i := 22) rfl))
def qsX2_addSample : List Cond := .code yX2_addSample cX2_addSample 2 none :: wsL_law
theorem gnX2_addSample {Ts : List Cond} (hs : ∀ w ∈ wsL_law, w ∈ Ts) : GoodIn Ts qsX2_addSample := pq_gn hs (pq_m30 _ (List.mem_of_getElem? (i := 2) rfl))
theorem gvX2_addSample {Ts : List Cond} {own : String} {idx : Nat} (hs : ∀ w ∈ wsL_law, w ∈ Ts) (h1 : Cond.methodLink own idx yX2_addSample ∈ wsL_law) : GoodIn Ts (wsV own idx RX2 yX2_addSample qsX2_addSample) := pq_gv hs h1 (pq_m30 _ (List.mem_of_getElem? (i := 0) rfl)) (pq_m30 _ (List.mem_of_getElem? (i := 1) rfl)) (pq_m1 _ (List.mem_of_getElem? (i := 18) rfl)) (pq_m30 _ (List.mem_of_getElem? (i := 2) rfl))
def qsX2_sampleAt : List Cond := .code yX2_sampleAt cX2_sampleAt 2 (some .int) :: wsL_law
theorem gnX2_sampleAt {Ts : List Cond} (hs : ∀ w ∈ wsL_law, w ∈ Ts) : GoodIn Ts qsX2_sampleAt := pq_gn hs (pq_m28 _ (List.mem_of_getElem? (i := 14) rfl))
theorem gvX2_sampleAt {Ts : List Cond} {own : String} {idx : Nat} (hs : ∀ w ∈ wsL_law, w ∈ Ts) (h1 : Cond.methodLink own idx yX2_sampleAt ∈ wsL_law) : GoodIn Ts (wsV own idx RX2 yX2_sampleAt qsX2_sampleAt) := pq_gv hs h1 (pq_m28 _ (List.mem_of_getElem? (i := 12) rfl)) (pq_m28 _ (List.mem_of_getElem? (i := 13) rfl)) (pq_m1 _ (List.mem_of_getElem? (i := 18) rfl)) (pq_m28 _ (List.mem_of_getElem? (i := 14) rfl))
def qsX2_copyFrom : List Cond := .code yX2_copyFrom cX2_copyFrom 3 none :: wsL_law
theorem gnX2_copyFrom {Ts : List Cond} (hs : ∀ w ∈ wsL_law, w ∈ Ts) : GoodIn Ts qsX2_copyFrom := pq_gn hs (pq_m27 _ (List.mem_of_getElem? (i := 3) rfl))
theorem gvX2_copyFrom {Ts : List Cond} {own : String} {idx : Nat} (hs : ∀ w ∈ wsL_law, w ∈ Ts) (h1 : Cond.methodLink own idx yX2_copyFrom ∈ wsL_law) : GoodIn Ts (wsV own idx RX2 yX2_copyFrom qsX2_copyFrom) := pq_gv hs h1 (pq_m27 _ (List.mem_of_getElem? (i := 1) rfl)) (pq_m27 _ (List.mem_of_getElem? (i := 2) rfl)) (pq_m1 _ (List.mem_of_getElem? (i := 18) rfl)) (pq_m27 _ (List.mem_of_getElem? (i := 3) rfl))
def qsX2_clearFor : List Cond := .code yX2_clearFor cX2_clearFor 3 none :: wsL_law
theorem gnX2_clearFor {Ts : List Cond} (hs : ∀ w ∈ wsL_law, w ∈ Ts) : GoodIn Ts qsX2_clearFor := pq_gn hs (pq_m28 _ (List.mem_of_getElem? (i := 6) rfl))
theorem gvX2_clearFor {Ts : List Cond} {own : String} {idx : Nat} (hs : ∀ w ∈ wsL_law, w ∈ Ts) (h1 : Cond.methodLink own idx yX2_clearFor ∈ wsL_law) : GoodIn Ts (wsV own idx RX2 yX2_clearFor qsX2_clearFor) := pq_gv hs h1 (pq_m28 _ (List.mem_of_getElem? (i := 4) rfl)) (pq_m28 _ (List.mem_of_getElem? (i := 5) rfl)) (pq_m1 _ (List.mem_of_getElem? (i := 18) rfl)) (pq_m28 _ (List.mem_of_getElem? (i := 6) rfl))
def qsX2_putCode : List Cond := .code yX2_putCode cX2_putCode 9 none :: wsL_law
theorem gnX2_putCode {Ts : List Cond} (hs : ∀ w ∈ wsL_law, w ∈ Ts) : GoodIn Ts qsX2_putCode := pq_gn hs (pq_m28 _ (List.mem_of_getElem? (i := 19) rfl))
theorem gvX2_putCode {Ts : List Cond} {own : String} {idx : Nat} (hs : ∀ w ∈ wsL_law, w ∈ Ts) (h1 : Cond.methodLink own idx yX2_putCode ∈ wsL_law) : GoodIn Ts (wsV own idx RX2 yX2_putCode qsX2_putCode) := pq_gv hs h1 (pq_m28 _ (List.mem_of_getElem? (i := 17) rfl)) (pq_m28 _ (List.mem_of_getElem? (i := 18) rfl)) (pq_m1 _ (List.mem_of_getElem? (i := 18) rfl)) (pq_m28 _ (List.mem_of_getElem? (i := 19) rfl))
def qsX2_codeAt : List Cond := .code yX2_codeAt cX2_codeAt 8 (some .int) :: wsL_law
theorem gnX2_codeAt {Ts : List Cond} (hs : ∀ w ∈ wsL_law, w ∈ Ts) : GoodIn Ts qsX2_codeAt := pq_gn hs (pq_m29 _ (List.mem_of_getElem? (i := 22) rfl))
theorem gvX2_codeAt {Ts : List Cond} {own : String} {idx : Nat} (hs : ∀ w ∈ wsL_law, w ∈ Ts) (h1 : Cond.methodLink own idx yX2_codeAt ∈ wsL_law) : GoodIn Ts (wsV own idx RX2 yX2_codeAt qsX2_codeAt) := pq_gv hs h1 (pq_m29 _ (List.mem_of_getElem? (i := 20) rfl)) (pq_m29 _ (List.mem_of_getElem? (i := 21) rfl)) (pq_m1 _ (List.mem_of_getElem? (i := 18) rfl)) (pq_m29 _ (List.mem_of_getElem? (i := 22) rfl))
def qsX2_codeBit : List Cond := .code yX2_codeBit cX2_codeBit 3 (some .int) :: wsL_law
theorem gnX2_codeBit {Ts : List Cond} (hs : ∀ w ∈ wsL_law, w ∈ Ts) : GoodIn Ts qsX2_codeBit := pq_gn hs (pq_m28 _ (List.mem_of_getElem? (i := 22) rfl))
theorem gsX2_codeBit {Ts : List Cond} {own : String} {idx : Nat} (hs : ∀ w ∈ wsL_law, w ∈ Ts) (h1 : Cond.methodLink own idx yX2_codeBit ∈ wsL_law) : GoodIn Ts (va_wsS own idx yX2_codeBit qsX2_codeBit) := pq_gs hs h1 (pq_m28 _ (List.mem_of_getElem? (i := 21) rfl)) (pq_m1 _ (List.mem_of_getElem? (i := 18) rfl)) (pq_m28 _ (List.mem_of_getElem? (i := 22) rfl))
def qsX2_byteBit : List Cond := .code yX2_byteBit cX2_byteBit 2 (some .int) :: wsL_law
theorem gnX2_byteBit {Ts : List Cond} (hs : ∀ w ∈ wsL_law, w ∈ Ts) : GoodIn Ts qsX2_byteBit := pq_gn hs (pq_m29 _ (List.mem_of_getElem? (i := 1) rfl))
theorem gsX2_byteBit {Ts : List Cond} {own : String} {idx : Nat} (hs : ∀ w ∈ wsL_law, w ∈ Ts) (h1 : Cond.methodLink own idx yX2_byteBit ∈ wsL_law) : GoodIn Ts (va_wsS own idx yX2_byteBit qsX2_byteBit) := pq_gs hs h1 (pq_m29 _ (List.mem_of_getElem? (i := 0) rfl)) (pq_m1 _ (List.mem_of_getElem? (i := 18) rfl)) (pq_m29 _ (List.mem_of_getElem? (i := 1) rfl))
def qsX3_muCode : List Cond := .code yX3_muCode cX3_muCode 5 (some .int) :: wsL_law
theorem gnX3_muCode {Ts : List Cond} (hs : ∀ w ∈ wsL_law, w ∈ Ts) : GoodIn Ts qsX3_muCode := pq_gn hs (pq_m15 _ (List.mem_of_getElem? (i := 0) rfl))
theorem gsX3_muCode {Ts : List Cond} {own : String} {idx : Nat} (hs : ∀ w ∈ wsL_law, w ∈ Ts) (h1 : Cond.methodLink own idx yX3_muCode ∈ wsL_law) : GoodIn Ts (va_wsS own idx yX3_muCode qsX3_muCode) := pq_gs hs h1 (pq_m14 _ (List.mem_of_getElem? (i := 22) rfl)) (pq_m14 _ (List.mem_of_getElem? (i := 23) rfl)) (pq_m15 _ (List.mem_of_getElem? (i := 0) rfl))
def qsX3_muSample : List Cond := .code yX3_muSample cX3_muSample 3 (some .int) :: wsL_law
theorem gnX3_muSample {Ts : List Cond} (hs : ∀ w ∈ wsL_law, w ∈ Ts) : GoodIn Ts qsX3_muSample := pq_gn hs (pq_m22 _ (List.mem_of_getElem? (i := 8) rfl))
theorem gsX3_muSample {Ts : List Cond} {own : String} {idx : Nat} (hs : ∀ w ∈ wsL_law, w ∈ Ts) (h1 : Cond.methodLink own idx yX3_muSample ∈ wsL_law) : GoodIn Ts (va_wsS own idx yX3_muSample qsX3_muSample) := pq_gs hs h1 (pq_m22 _ (List.mem_of_getElem? (i := 7) rfl)) (pq_m14 _ (List.mem_of_getElem? (i := 23) rfl)) (pq_m22 _ (List.mem_of_getElem? (i := 8) rfl))
def qsX3_aCode : List Cond := .code yX3_aCode cX3_aCode 5 (some .int) :: wsL_law
theorem gnX3_aCode {Ts : List Cond} (hs : ∀ w ∈ wsL_law, w ∈ Ts) : GoodIn Ts qsX3_aCode := pq_gn hs (pq_m15 _ (List.mem_of_getElem? (i := 8) rfl))
theorem gsX3_aCode {Ts : List Cond} {own : String} {idx : Nat} (hs : ∀ w ∈ wsL_law, w ∈ Ts) (h1 : Cond.methodLink own idx yX3_aCode ∈ wsL_law) : GoodIn Ts (va_wsS own idx yX3_aCode qsX3_aCode) := pq_gs hs h1 (pq_m15 _ (List.mem_of_getElem? (i := 7) rfl)) (pq_m14 _ (List.mem_of_getElem? (i := 23) rfl)) (pq_m15 _ (List.mem_of_getElem? (i := 8) rfl))
def qsX3_aSample : List Cond := .code yX3_aSample cX3_aSample 4 (some .int) :: wsL_law
theorem gnX3_aSample {Ts : List Cond} (hs : ∀ w ∈ wsL_law, w ∈ Ts) : GoodIn Ts qsX3_aSample := pq_gn hs (pq_m22 _ (List.mem_of_getElem? (i := 11) rfl))
theorem gsX3_aSample {Ts : List Cond} {own : String} {idx : Nat} (hs : ∀ w ∈ wsL_law, w ∈ Ts) (h1 : Cond.methodLink own idx yX3_aSample ∈ wsL_law) : GoodIn Ts (va_wsS own idx yX3_aSample qsX3_aSample) := pq_gs hs h1 (pq_m22 _ (List.mem_of_getElem? (i := 10) rfl)) (pq_m14 _ (List.mem_of_getElem? (i := 23) rfl)) (pq_m22 _ (List.mem_of_getElem? (i := 11) rfl))
def qsX3_segment : List Cond := .code yX3_segment cX3_segment 3 (some .int) :: wsL_law
theorem gnX3_segment {Ts : List Cond} (hs : ∀ w ∈ wsL_law, w ∈ Ts) : GoodIn Ts qsX3_segment := pq_gn hs (pq_m15 _ (List.mem_of_getElem? (i := 5) rfl))
theorem gsX3_segment {Ts : List Cond} {own : String} {idx : Nat} (hs : ∀ w ∈ wsL_law, w ∈ Ts) (h1 : Cond.methodLink own idx yX3_segment ∈ wsL_law) : GoodIn Ts (va_wsS own idx yX3_segment qsX3_segment) := pq_gs hs h1 (pq_m15 _ (List.mem_of_getElem? (i := 4) rfl)) (pq_m14 _ (List.mem_of_getElem? (i := 23) rfl)) (pq_m15 _ (List.mem_of_getElem? (i := 5) rfl))
def qsX3_muEdge : List Cond := .code yX3_muEdge cX3_muEdge 8 (some .int) :: wsL_law
theorem gnX3_muEdge {Ts : List Cond} (hs : ∀ w ∈ wsL_law, w ∈ Ts) : GoodIn Ts qsX3_muEdge := pq_gn hs (pq_m31 _ (List.mem_of_getElem? (i := 1) rfl))
theorem gsX3_muEdge {Ts : List Cond} {own : String} {idx : Nat} (hs : ∀ w ∈ wsL_law, w ∈ Ts) (h1 : Cond.methodLink own idx yX3_muEdge ∈ wsL_law) : GoodIn Ts (va_wsS own idx yX3_muEdge qsX3_muEdge) := pq_gs hs h1 (pq_m31 _ (List.mem_of_getElem? (i := 0) rfl)) (pq_m14 _ (List.mem_of_getElem? (i := 23) rfl)) (pq_m31 _ (List.mem_of_getElem? (i := 1) rfl))
def qsX3_aEdge : List Cond := .code yX3_aEdge cX3_aEdge 8 (some .int) :: wsL_law
theorem gnX3_aEdge {Ts : List Cond} (hs : ∀ w ∈ wsL_law, w ∈ Ts) : GoodIn Ts qsX3_aEdge := pq_gn hs (pq_m31 _ (List.mem_of_getElem? (i := 5) rfl))
theorem gsX3_aEdge {Ts : List Cond} {own : String} {idx : Nat} (hs : ∀ w ∈ wsL_law, w ∈ Ts) (h1 : Cond.methodLink own idx yX3_aEdge ∈ wsL_law) : GoodIn Ts (va_wsS own idx yX3_aEdge qsX3_aEdge) := pq_gs hs h1 (pq_m31 _ (List.mem_of_getElem? (i := 4) rfl)) (pq_m14 _ (List.mem_of_getElem? (i := 23) rfl)) (pq_m31 _ (List.mem_of_getElem? (i := 5) rfl))
def qsX4_init : List Cond := .code yX4_init cX4_init 1 none :: wsL_law
theorem gnX4_init {Ts : List Cond} (hs : ∀ w ∈ wsL_law, w ∈ Ts) : GoodIn Ts qsX4_init := pq_gn hs (pq_m1 _ (List.mem_of_getElem? (i := 22) rfl))
def qsX4_begin : List Cond := .code yX4_begin cX4_begin 2 none :: wsL_law
theorem gnX4_begin {Ts : List Cond} (hs : ∀ w ∈ wsL_law, w ∈ Ts) : GoodIn Ts qsX4_begin := pq_gn hs (pq_m5 _ (List.mem_of_getElem? (i := 15) rfl))
theorem gvX4_begin {Ts : List Cond} {own : String} {idx : Nat} (hs : ∀ w ∈ wsL_law, w ∈ Ts) (h1 : Cond.methodLink own idx yX4_begin ∈ wsL_law) : GoodIn Ts (wsV own idx RX4 yX4_begin qsX4_begin) := pq_gv hs h1 (pq_m5 _ (List.mem_of_getElem? (i := 13) rfl)) (pq_m5 _ (List.mem_of_getElem? (i := 14) rfl)) (pq_m1 _ (List.mem_of_getElem? (i := 15) rfl)) (pq_m5 _ (List.mem_of_getElem? (i := 15) rfl))
def qsX4_isAdpcm : List Cond := .code yX4_isAdpcm cX4_isAdpcm 1 (some .boolean) :: wsL_law
theorem gnX4_isAdpcm {Ts : List Cond} (hs : ∀ w ∈ wsL_law, w ∈ Ts) : GoodIn Ts qsX4_isAdpcm := pq_gn hs (pq_m5 _ (List.mem_of_getElem? (i := 19) rfl))
theorem gvX4_isAdpcm {Ts : List Cond} {own : String} {idx : Nat} (hs : ∀ w ∈ wsL_law, w ∈ Ts) (h1 : Cond.methodLink own idx yX4_isAdpcm ∈ wsL_law) : GoodIn Ts (wsV own idx RX4 yX4_isAdpcm qsX4_isAdpcm) := pq_gv hs h1 (pq_m5 _ (List.mem_of_getElem? (i := 17) rfl)) (pq_m5 _ (List.mem_of_getElem? (i := 18) rfl)) (pq_m1 _ (List.mem_of_getElem? (i := 15) rfl)) (pq_m5 _ (List.mem_of_getElem? (i := 19) rfl))
def qsX4_isWide : List Cond := .code yX4_isWide cX4_isWide 1 (some .boolean) :: wsL_law
theorem gnX4_isWide {Ts : List Cond} (hs : ∀ w ∈ wsL_law, w ∈ Ts) : GoodIn Ts qsX4_isWide := pq_gn hs (pq_m6 _ (List.mem_of_getElem? (i := 4) rfl))
theorem gvX4_isWide {Ts : List Cond} {own : String} {idx : Nat} (hs : ∀ w ∈ wsL_law, w ∈ Ts) (h1 : Cond.methodLink own idx yX4_isWide ∈ wsL_law) : GoodIn Ts (wsV own idx RX4 yX4_isWide qsX4_isWide) := pq_gv hs h1 (pq_m6 _ (List.mem_of_getElem? (i := 2) rfl)) (pq_m6 _ (List.mem_of_getElem? (i := 3) rfl)) (pq_m1 _ (List.mem_of_getElem? (i := 15) rfl)) (pq_m6 _ (List.mem_of_getElem? (i := 4) rfl))
def qsX4_codeBits : List Cond := .code yX4_codeBits cX4_codeBits 1 (some .int) :: wsL_law
theorem gnX4_codeBits {Ts : List Cond} (hs : ∀ w ∈ wsL_law, w ∈ Ts) : GoodIn Ts qsX4_codeBits := pq_gn hs (pq_m21 _ (List.mem_of_getElem? (i := 8) rfl))
theorem gvX4_codeBits {Ts : List Cond} {own : String} {idx : Nat} (hs : ∀ w ∈ wsL_law, w ∈ Ts) (h1 : Cond.methodLink own idx yX4_codeBits ∈ wsL_law) : GoodIn Ts (wsV own idx RX4 yX4_codeBits qsX4_codeBits) := pq_gv hs h1 (pq_m21 _ (List.mem_of_getElem? (i := 6) rfl)) (pq_m21 _ (List.mem_of_getElem? (i := 7) rfl)) (pq_m1 _ (List.mem_of_getElem? (i := 15) rfl)) (pq_m21 _ (List.mem_of_getElem? (i := 8) rfl))
def qsX4_hasCode : List Cond := .code yX4_hasCode cX4_hasCode 2 (some .boolean) :: wsL_law
theorem gnX4_hasCode {Ts : List Cond} (hs : ∀ w ∈ wsL_law, w ∈ Ts) : GoodIn Ts qsX4_hasCode := pq_gn hs (pq_m21 _ (List.mem_of_getElem? (i := 4) rfl))
theorem gvX4_hasCode {Ts : List Cond} {own : String} {idx : Nat} (hs : ∀ w ∈ wsL_law, w ∈ Ts) (h1 : Cond.methodLink own idx yX4_hasCode ∈ wsL_law) : GoodIn Ts (wsV own idx RX4 yX4_hasCode qsX4_hasCode) := pq_gv hs h1 (pq_m21 _ (List.mem_of_getElem? (i := 2) rfl)) (pq_m21 _ (List.mem_of_getElem? (i := 3) rfl)) (pq_m1 _ (List.mem_of_getElem? (i := 15) rfl)) (pq_m21 _ (List.mem_of_getElem? (i := 4) rfl))
def qsX4_encode : List Cond := .code yX4_encode cX4_encode 3 (some .int) :: wsL_law
theorem gnX4_encode {Ts : List Cond} (hs : ∀ w ∈ wsL_law, w ∈ Ts) : GoodIn Ts qsX4_encode := pq_gn hs (pq_m7 _ (List.mem_of_getElem? (i := 23) rfl))
theorem gvX4_encode {Ts : List Cond} {own : String} {idx : Nat} (hs : ∀ w ∈ wsL_law, w ∈ Ts) (h1 : Cond.methodLink own idx yX4_encode ∈ wsL_law) : GoodIn Ts (wsV own idx RX4 yX4_encode qsX4_encode) := pq_gv hs h1 (pq_m7 _ (List.mem_of_getElem? (i := 21) rfl)) (pq_m7 _ (List.mem_of_getElem? (i := 22) rfl)) (pq_m1 _ (List.mem_of_getElem? (i := 15) rfl)) (pq_m7 _ (List.mem_of_getElem? (i := 23) rfl))
def qsX4_decode : List Cond := .code yX4_decode cX4_decode 2 (some .int) :: wsL_law
theorem gnX4_decode {Ts : List Cond} (hs : ∀ w ∈ wsL_law, w ∈ Ts) : GoodIn Ts qsX4_decode := pq_gn hs (pq_m21 _ (List.mem_of_getElem? (i := 12) rfl))
theorem gvX4_decode {Ts : List Cond} {own : String} {idx : Nat} (hs : ∀ w ∈ wsL_law, w ∈ Ts) (h1 : Cond.methodLink own idx yX4_decode ∈ wsL_law) : GoodIn Ts (wsV own idx RX4 yX4_decode qsX4_decode) := pq_gv hs h1 (pq_m21 _ (List.mem_of_getElem? (i := 10) rfl)) (pq_m21 _ (List.mem_of_getElem? (i := 11) rfl)) (pq_m1 _ (List.mem_of_getElem? (i := 15) rfl)) (pq_m21 _ (List.mem_of_getElem? (i := 12) rfl))
def qsX4_secondHeard : List Cond := .code yX4_secondHeard cX4_secondHeard 1 (some .int) :: wsL_law
theorem gnX4_secondHeard {Ts : List Cond} (hs : ∀ w ∈ wsL_law, w ∈ Ts) : GoodIn Ts qsX4_secondHeard := pq_gn hs (pq_m24 _ (List.mem_of_getElem? (i := 7) rfl))
theorem gvX4_secondHeard {Ts : List Cond} {own : String} {idx : Nat} (hs : ∀ w ∈ wsL_law, w ∈ Ts) (h1 : Cond.methodLink own idx yX4_secondHeard ∈ wsL_law) : GoodIn Ts (wsV own idx RX4 yX4_secondHeard qsX4_secondHeard) := pq_gv hs h1 (pq_m24 _ (List.mem_of_getElem? (i := 5) rfl)) (pq_m24 _ (List.mem_of_getElem? (i := 6) rfl)) (pq_m1 _ (List.mem_of_getElem? (i := 15) rfl)) (pq_m24 _ (List.mem_of_getElem? (i := 7) rfl))
def qsX4_number : List Cond := .code yX4_number cX4_number 3 (some .int) :: wsL_law
theorem gnX4_number {Ts : List Cond} (hs : ∀ w ∈ wsL_law, w ∈ Ts) : GoodIn Ts qsX4_number := pq_gn hs (pq_m24 _ (List.mem_of_getElem? (i := 19) rfl))
theorem gvX4_number {Ts : List Cond} {own : String} {idx : Nat} (hs : ∀ w ∈ wsL_law, w ∈ Ts) (h1 : Cond.methodLink own idx yX4_number ∈ wsL_law) : GoodIn Ts (wsV own idx RX4 yX4_number qsX4_number) := pq_gv hs h1 (pq_m24 _ (List.mem_of_getElem? (i := 17) rfl)) (pq_m24 _ (List.mem_of_getElem? (i := 18) rfl)) (pq_m1 _ (List.mem_of_getElem? (i := 15) rfl)) (pq_m24 _ (List.mem_of_getElem? (i := 19) rfl))
def qsX5_init : List Cond := .code yX5_init cX5_init 1 none :: wsL_law
theorem gnX5_init {Ts : List Cond} (hs : ∀ w ∈ wsL_law, w ∈ Ts) : GoodIn Ts qsX5_init := pq_gn hs (pq_m2 _ (List.mem_of_getElem? (i := 22) rfl))
def qsX5_begin : List Cond := .code yX5_begin cX5_begin 2 none :: wsL_law
theorem gnX5_begin {Ts : List Cond} (hs : ∀ w ∈ wsL_law, w ∈ Ts) : GoodIn Ts qsX5_begin := pq_gn hs (pq_m6 _ (List.mem_of_getElem? (i := 8) rfl))
theorem gvX5_begin {Ts : List Cond} {own : String} {idx : Nat} (hs : ∀ w ∈ wsL_law, w ∈ Ts) (h1 : Cond.methodLink own idx yX5_begin ∈ wsL_law) : GoodIn Ts (wsV own idx RX5 yX5_begin qsX5_begin) := pq_gv hs h1 (pq_m6 _ (List.mem_of_getElem? (i := 6) rfl)) (pq_m6 _ (List.mem_of_getElem? (i := 7) rfl)) (pq_m2 _ (List.mem_of_getElem? (i := 7) rfl)) (pq_m6 _ (List.mem_of_getElem? (i := 8) rfl))
def qsX5_number : List Cond := .code yX5_number cX5_number 2 (some .int) :: wsL_law
theorem gnX5_number {Ts : List Cond} (hs : ∀ w ∈ wsL_law, w ∈ Ts) : GoodIn Ts qsX5_number := pq_gn hs (pq_m24 _ (List.mem_of_getElem? (i := 23) rfl))
theorem gvX5_number {Ts : List Cond} {own : String} {idx : Nat} (hs : ∀ w ∈ wsL_law, w ∈ Ts) (h1 : Cond.methodLink own idx yX5_number ∈ wsL_law) : GoodIn Ts (wsV own idx RX5 yX5_number qsX5_number) := pq_gv hs h1 (pq_m24 _ (List.mem_of_getElem? (i := 21) rfl)) (pq_m24 _ (List.mem_of_getElem? (i := 22) rfl)) (pq_m2 _ (List.mem_of_getElem? (i := 7) rfl)) (pq_m24 _ (List.mem_of_getElem? (i := 23) rfl))
def qsX5_encode : List Cond := .code yX5_encode cX5_encode 7 (some .int) :: wsL_law
theorem gnX5_encode {Ts : List Cond} (hs : ∀ w ∈ wsL_law, w ∈ Ts) : GoodIn Ts qsX5_encode := pq_gn hs (pq_m8 _ (List.mem_of_getElem? (i := 3) rfl))
theorem gvX5_encode {Ts : List Cond} {own : String} {idx : Nat} (hs : ∀ w ∈ wsL_law, w ∈ Ts) (h1 : Cond.methodLink own idx yX5_encode ∈ wsL_law) : GoodIn Ts (wsV own idx RX5 yX5_encode qsX5_encode) := pq_gv hs h1 (pq_m8 _ (List.mem_of_getElem? (i := 1) rfl)) (pq_m8 _ (List.mem_of_getElem? (i := 2) rfl)) (pq_m2 _ (List.mem_of_getElem? (i := 7) rfl)) (pq_m8 _ (List.mem_of_getElem? (i := 3) rfl))
def qsX5_decode : List Cond := .code yX5_decode cX5_decode 7 (some .int) :: wsL_law
theorem gnX5_decode {Ts : List Cond} (hs : ∀ w ∈ wsL_law, w ∈ Ts) : GoodIn Ts qsX5_decode := pq_gn hs (pq_m21 _ (List.mem_of_getElem? (i := 16) rfl))
theorem gvX5_decode {Ts : List Cond} {own : String} {idx : Nat} (hs : ∀ w ∈ wsL_law, w ∈ Ts) (h1 : Cond.methodLink own idx yX5_decode ∈ wsL_law) : GoodIn Ts (wsV own idx RX5 yX5_decode qsX5_decode) := pq_gv hs h1 (pq_m21 _ (List.mem_of_getElem? (i := 14) rfl)) (pq_m21 _ (List.mem_of_getElem? (i := 15) rfl)) (pq_m2 _ (List.mem_of_getElem? (i := 7) rfl)) (pq_m21 _ (List.mem_of_getElem? (i := 16) rfl))
def qsX5_push : List Cond := .code yX5_push cX5_push 4 none :: wsL_law
theorem gnX5_push {Ts : List Cond} (hs : ∀ w ∈ wsL_law, w ∈ Ts) : GoodIn Ts qsX5_push := pq_gn hs (pq_m8 _ (List.mem_of_getElem? (i := 7) rfl))
theorem gvX5_push {Ts : List Cond} {own : String} {idx : Nat} (hs : ∀ w ∈ wsL_law, w ∈ Ts) (h1 : Cond.methodLink own idx yX5_push ∈ wsL_law) : GoodIn Ts (wsV own idx RX5 yX5_push qsX5_push) := pq_gv hs h1 (pq_m8 _ (List.mem_of_getElem? (i := 5) rfl)) (pq_m8 _ (List.mem_of_getElem? (i := 6) rfl)) (pq_m2 _ (List.mem_of_getElem? (i := 7) rfl)) (pq_m8 _ (List.mem_of_getElem? (i := 7) rfl))
def qsX5_evenSum : List Cond := .code yX5_evenSum cX5_evenSum 3 (some .int) :: wsL_law
theorem gnX5_evenSum {Ts : List Cond} (hs : ∀ w ∈ wsL_law, w ∈ Ts) : GoodIn Ts qsX5_evenSum := pq_gn hs (pq_m8 _ (List.mem_of_getElem? (i := 11) rfl))
theorem gvX5_evenSum {Ts : List Cond} {own : String} {idx : Nat} (hs : ∀ w ∈ wsL_law, w ∈ Ts) (h1 : Cond.methodLink own idx yX5_evenSum ∈ wsL_law) : GoodIn Ts (wsV own idx RX5 yX5_evenSum qsX5_evenSum) := pq_gv hs h1 (pq_m8 _ (List.mem_of_getElem? (i := 9) rfl)) (pq_m8 _ (List.mem_of_getElem? (i := 10) rfl)) (pq_m2 _ (List.mem_of_getElem? (i := 7) rfl)) (pq_m8 _ (List.mem_of_getElem? (i := 11) rfl))
def qsX5_oddSum : List Cond := .code yX5_oddSum cX5_oddSum 3 (some .int) :: wsL_law
theorem gnX5_oddSum {Ts : List Cond} (hs : ∀ w ∈ wsL_law, w ∈ Ts) : GoodIn Ts qsX5_oddSum := pq_gn hs (pq_m8 _ (List.mem_of_getElem? (i := 16) rfl))
theorem gvX5_oddSum {Ts : List Cond} {own : String} {idx : Nat} (hs : ∀ w ∈ wsL_law, w ∈ Ts) (h1 : Cond.methodLink own idx yX5_oddSum ∈ wsL_law) : GoodIn Ts (wsV own idx RX5 yX5_oddSum qsX5_oddSum) := pq_gv hs h1 (pq_m8 _ (List.mem_of_getElem? (i := 14) rfl)) (pq_m8 _ (List.mem_of_getElem? (i := 15) rfl)) (pq_m2 _ (List.mem_of_getElem? (i := 7) rfl)) (pq_m8 _ (List.mem_of_getElem? (i := 16) rfl))
def qsX5_lowCode : List Cond := .code yX5_lowCode cX5_lowCode 4 (some .int) :: wsL_law
theorem gnX5_lowCode {Ts : List Cond} (hs : ∀ w ∈ wsL_law, w ∈ Ts) : GoodIn Ts qsX5_lowCode := pq_gn hs (pq_m9 _ (List.mem_of_getElem? (i := 2) rfl))
theorem gvX5_lowCode {Ts : List Cond} {own : String} {idx : Nat} (hs : ∀ w ∈ wsL_law, w ∈ Ts) (h1 : Cond.methodLink own idx yX5_lowCode ∈ wsL_law) : GoodIn Ts (wsV own idx RX5 yX5_lowCode qsX5_lowCode) := pq_gv hs h1 (pq_m9 _ (List.mem_of_getElem? (i := 0) rfl)) (pq_m9 _ (List.mem_of_getElem? (i := 1) rfl)) (pq_m2 _ (List.mem_of_getElem? (i := 7) rfl)) (pq_m9 _ (List.mem_of_getElem? (i := 2) rfl))
def qsX5_highCode : List Cond := .code yX5_highCode cX5_highCode 4 (some .int) :: wsL_law
theorem gnX5_highCode {Ts : List Cond} (hs : ∀ w ∈ wsL_law, w ∈ Ts) : GoodIn Ts qsX5_highCode := pq_gn hs (pq_m9 _ (List.mem_of_getElem? (i := 11) rfl))
theorem gvX5_highCode {Ts : List Cond} {own : String} {idx : Nat} (hs : ∀ w ∈ wsL_law, w ∈ Ts) (h1 : Cond.methodLink own idx yX5_highCode ∈ wsL_law) : GoodIn Ts (wsV own idx RX5 yX5_highCode qsX5_highCode) := pq_gv hs h1 (pq_m9 _ (List.mem_of_getElem? (i := 9) rfl)) (pq_m9 _ (List.mem_of_getElem? (i := 10) rfl)) (pq_m2 _ (List.mem_of_getElem? (i := 7) rfl)) (pq_m9 _ (List.mem_of_getElem? (i := 11) rfl))
def qsX5_lowFactor : List Cond := .code yX5_lowFactor cX5_lowFactor 2 (some .int) :: wsL_law
theorem gnX5_lowFactor {Ts : List Cond} (hs : ∀ w ∈ wsL_law, w ∈ Ts) : GoodIn Ts qsX5_lowFactor := pq_gn hs (pq_m21 _ (List.mem_of_getElem? (i := 19) rfl))
theorem gsX5_lowFactor {Ts : List Cond} {own : String} {idx : Nat} (hs : ∀ w ∈ wsL_law, w ∈ Ts) (h1 : Cond.methodLink own idx yX5_lowFactor ∈ wsL_law) : GoodIn Ts (va_wsS own idx yX5_lowFactor qsX5_lowFactor) := pq_gs hs h1 (pq_m21 _ (List.mem_of_getElem? (i := 18) rfl)) (pq_m2 _ (List.mem_of_getElem? (i := 7) rfl)) (pq_m21 _ (List.mem_of_getElem? (i := 19) rfl))
def qsX5_settle : List Cond := .code yX5_settle cX5_settle 4 none :: wsL_law
theorem gnX5_settle {Ts : List Cond} (hs : ∀ w ∈ wsL_law, w ∈ Ts) : GoodIn Ts qsX5_settle := pq_gn hs (pq_m9 _ (List.mem_of_getElem? (i := 15) rfl))
theorem gvX5_settle {Ts : List Cond} {own : String} {idx : Nat} (hs : ∀ w ∈ wsL_law, w ∈ Ts) (h1 : Cond.methodLink own idx yX5_settle ∈ wsL_law) : GoodIn Ts (wsV own idx RX5 yX5_settle qsX5_settle) := pq_gv hs h1 (pq_m9 _ (List.mem_of_getElem? (i := 13) rfl)) (pq_m9 _ (List.mem_of_getElem? (i := 14) rfl)) (pq_m2 _ (List.mem_of_getElem? (i := 7) rfl)) (pq_m9 _ (List.mem_of_getElem? (i := 15) rfl))
def qsX6_init : List Cond := .code yX6_init cX6_init 2 none :: wsL_law
theorem gnX6_init {Ts : List Cond} (hs : ∀ w ∈ wsL_law, w ∈ Ts) : GoodIn Ts qsX6_init := pq_gn hs (pq_m1 _ (List.mem_of_getElem? (i := 8) rfl))
def qsX6_open : List Cond := .code yX6_open cX6_open 3 (some .boolean) :: wsL_law
theorem gnX6_open {Ts : List Cond} (hs : ∀ w ∈ wsL_law, w ∈ Ts) : GoodIn Ts qsX6_open := pq_gn hs (pq_m5 _ (List.mem_of_getElem? (i := 11) rfl))
theorem gvX6_open {Ts : List Cond} {own : String} {idx : Nat} (hs : ∀ w ∈ wsL_law, w ∈ Ts) (h1 : Cond.methodLink own idx yX6_open ∈ wsL_law) : GoodIn Ts (wsV own idx RX6 yX6_open qsX6_open) := pq_gv hs h1 (pq_m5 _ (List.mem_of_getElem? (i := 9) rfl)) (pq_m5 _ (List.mem_of_getElem? (i := 10) rfl)) (pq_m1 _ (List.mem_of_getElem? (i := 2) rfl)) (pq_m5 _ (List.mem_of_getElem? (i := 11) rfl))
def qsX6_kind : List Cond := .code yX6_kind cX6_kind 3 (some .int) :: wsL_law
theorem gnX6_kind {Ts : List Cond} (hs : ∀ w ∈ wsL_law, w ∈ Ts) : GoodIn Ts qsX6_kind := pq_gn hs (pq_m7 _ (List.mem_of_getElem? (i := 2) rfl))
theorem gvX6_kind {Ts : List Cond} {own : String} {idx : Nat} (hs : ∀ w ∈ wsL_law, w ∈ Ts) (h1 : Cond.methodLink own idx yX6_kind ∈ wsL_law) : GoodIn Ts (wsV own idx RX6 yX6_kind qsX6_kind) := pq_gv hs h1 (pq_m7 _ (List.mem_of_getElem? (i := 0) rfl)) (pq_m7 _ (List.mem_of_getElem? (i := 1) rfl)) (pq_m1 _ (List.mem_of_getElem? (i := 2) rfl)) (pq_m7 _ (List.mem_of_getElem? (i := 2) rfl))
def qsX6_say : List Cond := .code yX6_say cX6_say 4 (some .int) :: wsL_law
theorem gnX6_say {Ts : List Cond} (hs : ∀ w ∈ wsL_law, w ∈ Ts) : GoodIn Ts qsX6_say := pq_gn hs (pq_m7 _ (List.mem_of_getElem? (i := 15) rfl))
theorem gvX6_say {Ts : List Cond} {own : String} {idx : Nat} (hs : ∀ w ∈ wsL_law, w ∈ Ts) (h1 : Cond.methodLink own idx yX6_say ∈ wsL_law) : GoodIn Ts (wsV own idx RX6 yX6_say qsX6_say) := pq_gv hs h1 (pq_m7 _ (List.mem_of_getElem? (i := 13) rfl)) (pq_m7 _ (List.mem_of_getElem? (i := 14) rfl)) (pq_m1 _ (List.mem_of_getElem? (i := 2) rfl)) (pq_m7 _ (List.mem_of_getElem? (i := 15) rfl))
def qsX6_pair : List Cond := .code yX6_pair cX6_pair 5 (some .int) :: wsL_law
theorem gnX6_pair {Ts : List Cond} (hs : ∀ w ∈ wsL_law, w ∈ Ts) : GoodIn Ts qsX6_pair := pq_gn hs (pq_m19 _ (List.mem_of_getElem? (i := 18) rfl))
theorem gvX6_pair {Ts : List Cond} {own : String} {idx : Nat} (hs : ∀ w ∈ wsL_law, w ∈ Ts) (h1 : Cond.methodLink own idx yX6_pair ∈ wsL_law) : GoodIn Ts (wsV own idx RX6 yX6_pair qsX6_pair) := pq_gv hs h1 (pq_m19 _ (List.mem_of_getElem? (i := 16) rfl)) (pq_m19 _ (List.mem_of_getElem? (i := 17) rfl)) (pq_m1 _ (List.mem_of_getElem? (i := 2) rfl)) (pq_m19 _ (List.mem_of_getElem? (i := 18) rfl))
def qsX6_hear : List Cond := .code yX6_hear cX6_hear 4 (some .int) :: wsL_law
theorem gnX6_hear {Ts : List Cond} (hs : ∀ w ∈ wsL_law, w ∈ Ts) : GoodIn Ts qsX6_hear := pq_gn hs (pq_m21 _ (List.mem_of_getElem? (i := 0) rfl))
theorem gvX6_hear {Ts : List Cond} {own : String} {idx : Nat} (hs : ∀ w ∈ wsL_law, w ∈ Ts) (h1 : Cond.methodLink own idx yX6_hear ∈ wsL_law) : GoodIn Ts (wsV own idx RX6 yX6_hear qsX6_hear) := pq_gv hs h1 (pq_m20 _ (List.mem_of_getElem? (i := 22) rfl)) (pq_m20 _ (List.mem_of_getElem? (i := 23) rfl)) (pq_m1 _ (List.mem_of_getElem? (i := 2) rfl)) (pq_m21 _ (List.mem_of_getElem? (i := 0) rfl))
def qsX6_second : List Cond := .code yX6_second cX6_second 3 (some .int) :: wsL_law
theorem gnX6_second {Ts : List Cond} (hs : ∀ w ∈ wsL_law, w ∈ Ts) : GoodIn Ts qsX6_second := pq_gn hs (pq_m24 _ (List.mem_of_getElem? (i := 3) rfl))
theorem gvX6_second {Ts : List Cond} {own : String} {idx : Nat} (hs : ∀ w ∈ wsL_law, w ∈ Ts) (h1 : Cond.methodLink own idx yX6_second ∈ wsL_law) : GoodIn Ts (wsV own idx RX6 yX6_second qsX6_second) := pq_gv hs h1 (pq_m24 _ (List.mem_of_getElem? (i := 1) rfl)) (pq_m24 _ (List.mem_of_getElem? (i := 2) rfl)) (pq_m1 _ (List.mem_of_getElem? (i := 2) rfl)) (pq_m24 _ (List.mem_of_getElem? (i := 3) rfl))
def qsX6_inner : List Cond := .code yX6_inner cX6_inner 5 (some .int) :: wsL_law
theorem gnX6_inner {Ts : List Cond} (hs : ∀ w ∈ wsL_law, w ∈ Ts) : GoodIn Ts qsX6_inner := pq_gn hs (pq_m24 _ (List.mem_of_getElem? (i := 15) rfl))
theorem gvX6_inner {Ts : List Cond} {own : String} {idx : Nat} (hs : ∀ w ∈ wsL_law, w ∈ Ts) (h1 : Cond.methodLink own idx yX6_inner ∈ wsL_law) : GoodIn Ts (wsV own idx RX6 yX6_inner qsX6_inner) := pq_gv hs h1 (pq_m24 _ (List.mem_of_getElem? (i := 13) rfl)) (pq_m24 _ (List.mem_of_getElem? (i := 14) rfl)) (pq_m1 _ (List.mem_of_getElem? (i := 2) rfl)) (pq_m24 _ (List.mem_of_getElem? (i := 15) rfl))
def qsX6_feed : List Cond := .code yX6_feed cX6_feed 6 (some .int) :: wsL_law
theorem gnX6_feed {Ts : List Cond} (hs : ∀ w ∈ wsL_law, w ∈ Ts) : GoodIn Ts qsX6_feed := pq_gn hs (pq_m25 _ (List.mem_of_getElem? (i := 18) rfl))
theorem gvX6_feed {Ts : List Cond} {own : String} {idx : Nat} (hs : ∀ w ∈ wsL_law, w ∈ Ts) (h1 : Cond.methodLink own idx yX6_feed ∈ wsL_law) : GoodIn Ts (wsV own idx RX6 yX6_feed qsX6_feed) := pq_gv hs h1 (pq_m25 _ (List.mem_of_getElem? (i := 16) rfl)) (pq_m25 _ (List.mem_of_getElem? (i := 17) rfl)) (pq_m1 _ (List.mem_of_getElem? (i := 2) rfl)) (pq_m25 _ (List.mem_of_getElem? (i := 18) rfl))
def qsX6_end : List Cond := .code yX6_end cX6_end 2 (some .int) :: wsL_law
theorem gnX6_end {Ts : List Cond} (hs : ∀ w ∈ wsL_law, w ∈ Ts) : GoodIn Ts qsX6_end := pq_gn hs (pq_m26 _ (List.mem_of_getElem? (i := 15) rfl))
theorem gvX6_end {Ts : List Cond} {own : String} {idx : Nat} (hs : ∀ w ∈ wsL_law, w ∈ Ts) (h1 : Cond.methodLink own idx yX6_end ∈ wsL_law) : GoodIn Ts (wsV own idx RX6 yX6_end qsX6_end) := pq_gv hs h1 (pq_m26 _ (List.mem_of_getElem? (i := 13) rfl)) (pq_m26 _ (List.mem_of_getElem? (i := 14) rfl)) (pq_m1 _ (List.mem_of_getElem? (i := 2) rfl)) (pq_m26 _ (List.mem_of_getElem? (i := 15) rfl))
def qsX6_take : List Cond := .code yX6_take cX6_take 1 (some .int) :: wsL_law
theorem gnX6_take {Ts : List Cond} (hs : ∀ w ∈ wsL_law, w ∈ Ts) : GoodIn Ts qsX6_take := pq_gn hs (pq_m26 _ (List.mem_of_getElem? (i := 23) rfl))
theorem gvX6_take {Ts : List Cond} {own : String} {idx : Nat} (hs : ∀ w ∈ wsL_law, w ∈ Ts) (h1 : Cond.methodLink own idx yX6_take ∈ wsL_law) : GoodIn Ts (wsV own idx RX6 yX6_take qsX6_take) := pq_gv hs h1 (pq_m26 _ (List.mem_of_getElem? (i := 21) rfl)) (pq_m26 _ (List.mem_of_getElem? (i := 22) rfl)) (pq_m1 _ (List.mem_of_getElem? (i := 2) rfl)) (pq_m26 _ (List.mem_of_getElem? (i := 23) rfl))
def qsX6_out : List Cond := .code yX6_out cX6_out 2 (some .int) :: wsL_law
theorem gnX6_out {Ts : List Cond} (hs : ∀ w ∈ wsL_law, w ∈ Ts) : GoodIn Ts qsX6_out := pq_gn hs (pq_m27 _ (List.mem_of_getElem? (i := 12) rfl))
theorem gvX6_out {Ts : List Cond} {own : String} {idx : Nat} (hs : ∀ w ∈ wsL_law, w ∈ Ts) (h1 : Cond.methodLink own idx yX6_out ∈ wsL_law) : GoodIn Ts (wsV own idx RX6 yX6_out qsX6_out) := pq_gv hs h1 (pq_m27 _ (List.mem_of_getElem? (i := 10) rfl)) (pq_m27 _ (List.mem_of_getElem? (i := 11) rfl)) (pq_m1 _ (List.mem_of_getElem? (i := 2) rfl)) (pq_m27 _ (List.mem_of_getElem? (i := 12) rfl))
def qsX6_pack : List Cond := .code yX6_pack cX6_pack 11 (some .int) :: wsL_law
theorem gnX6_pack {Ts : List Cond} (hs : ∀ w ∈ wsL_law, w ∈ Ts) : GoodIn Ts qsX6_pack := pq_gn hs (pq_m28 _ (List.mem_of_getElem? (i := 1) rfl))
theorem gvX6_pack {Ts : List Cond} {own : String} {idx : Nat} (hs : ∀ w ∈ wsL_law, w ∈ Ts) (h1 : Cond.methodLink own idx yX6_pack ∈ wsL_law) : GoodIn Ts (wsV own idx RX6 yX6_pack qsX6_pack) := pq_gv hs h1 (pq_m27 _ (List.mem_of_getElem? (i := 23) rfl)) (pq_m28 _ (List.mem_of_getElem? (i := 0) rfl)) (pq_m1 _ (List.mem_of_getElem? (i := 2) rfl)) (pq_m28 _ (List.mem_of_getElem? (i := 1) rfl))
def qsX6_unpack : List Cond := .code yX6_unpack cX6_unpack 7 (some .int) :: wsL_law
theorem gnX6_unpack {Ts : List Cond} (hs : ∀ w ∈ wsL_law, w ∈ Ts) : GoodIn Ts qsX6_unpack := pq_gn hs (pq_m29 _ (List.mem_of_getElem? (i := 17) rfl))
theorem gvX6_unpack {Ts : List Cond} {own : String} {idx : Nat} (hs : ∀ w ∈ wsL_law, w ∈ Ts) (h1 : Cond.methodLink own idx yX6_unpack ∈ wsL_law) : GoodIn Ts (wsV own idx RX6 yX6_unpack qsX6_unpack) := pq_gv hs h1 (pq_m29 _ (List.mem_of_getElem? (i := 15) rfl)) (pq_m29 _ (List.mem_of_getElem? (i := 16) rfl)) (pq_m1 _ (List.mem_of_getElem? (i := 2) rfl)) (pq_m29 _ (List.mem_of_getElem? (i := 17) rfl))
def qsX6_pass : List Cond := .code yX6_pass cX6_pass 7 (some .int) :: wsL_law
theorem gnX6_pass {Ts : List Cond} (hs : ∀ w ∈ wsL_law, w ∈ Ts) : GoodIn Ts qsX6_pass := pq_gn hs (pq_m30 _ (List.mem_of_getElem? (i := 14) rfl))
theorem gvX6_pass {Ts : List Cond} {own : String} {idx : Nat} (hs : ∀ w ∈ wsL_law, w ∈ Ts) (h1 : Cond.methodLink own idx yX6_pass ∈ wsL_law) : GoodIn Ts (wsV own idx RX6 yX6_pass qsX6_pass) := pq_gv hs h1 (pq_m30 _ (List.mem_of_getElem? (i := 12) rfl)) (pq_m30 _ (List.mem_of_getElem? (i := 13) rfl)) (pq_m1 _ (List.mem_of_getElem? (i := 2) rfl)) (pq_m30 _ (List.mem_of_getElem? (i := 14) rfl))
def qsX6_law : List Cond := .code yX6_law cX6_law 4 (some .int) :: wsL_law
theorem gnX6_law {Ts : List Cond} (hs : ∀ w ∈ wsL_law, w ∈ Ts) : GoodIn Ts qsX6_law := pq_gn hs (pq_m30 _ (List.mem_of_getElem? (i := 22) rfl))
theorem gvX6_law {Ts : List Cond} {own : String} {idx : Nat} (hs : ∀ w ∈ wsL_law, w ∈ Ts) (h1 : Cond.methodLink own idx yX6_law ∈ wsL_law) : GoodIn Ts (wsV own idx RX6 yX6_law qsX6_law) := pq_gv hs h1 (pq_m30 _ (List.mem_of_getElem? (i := 20) rfl)) (pq_m30 _ (List.mem_of_getElem? (i := 21) rfl)) (pq_m1 _ (List.mem_of_getElem? (i := 2) rfl)) (pq_m30 _ (List.mem_of_getElem? (i := 22) rfl))
def qsX6_openLine : List Cond := .code yX6_openLine cX6_openLine 3 (some (.object "VoiceDesk$Line")) :: wsL_law
theorem gnX6_openLine {Ts : List Cond} (hs : ∀ w ∈ wsL_law, w ∈ Ts) : GoodIn Ts qsX6_openLine := pq_gn hs (pq_m7 _ (List.mem_of_getElem? (i := 7) rfl))
theorem gvX6_openLine {Ts : List Cond} {own : String} {idx : Nat} (hs : ∀ w ∈ wsL_law, w ∈ Ts) (h1 : Cond.methodLink own idx yX6_openLine ∈ wsL_law) : GoodIn Ts (wsV own idx RX6 yX6_openLine qsX6_openLine) := pq_gv hs h1 (pq_m7 _ (List.mem_of_getElem? (i := 5) rfl)) (pq_m7 _ (List.mem_of_getElem? (i := 6) rfl)) (pq_m1 _ (List.mem_of_getElem? (i := 2) rfl)) (pq_m7 _ (List.mem_of_getElem? (i := 7) rfl))
def qsX6_isSample : List Cond := .code yX6_isSample cX6_isSample 1 (some .boolean) :: wsL_law
theorem gnX6_isSample {Ts : List Cond} (hs : ∀ w ∈ wsL_law, w ∈ Ts) : GoodIn Ts qsX6_isSample := pq_gn hs (pq_m7 _ (List.mem_of_getElem? (i := 19) rfl))
theorem gsX6_isSample {Ts : List Cond} {own : String} {idx : Nat} (hs : ∀ w ∈ wsL_law, w ∈ Ts) (h1 : Cond.methodLink own idx yX6_isSample ∈ wsL_law) : GoodIn Ts (va_wsS own idx yX6_isSample qsX6_isSample) := pq_gs hs h1 (pq_m7 _ (List.mem_of_getElem? (i := 18) rfl)) (pq_m1 _ (List.mem_of_getElem? (i := 2) rfl)) (pq_m7 _ (List.mem_of_getElem? (i := 19) rfl))
def qsX6_cut : List Cond := .code yX6_cut cX6_cut 3 (some .int) :: wsL_law
theorem gnX6_cut {Ts : List Cond} (hs : ∀ w ∈ wsL_law, w ∈ Ts) : GoodIn Ts qsX6_cut := pq_gn hs (pq_m10 _ (List.mem_of_getElem? (i := 10) rfl))
def qsX6_limited : List Cond := .code yX6_limited cX6_limited 1 (some .int) :: wsL_law
theorem gnX6_limited {Ts : List Cond} (hs : ∀ w ∈ wsL_law, w ∈ Ts) : GoodIn Ts qsX6_limited := pq_gn hs (pq_m8 _ (List.mem_of_getElem? (i := 22) rfl))
def qsX6_wrapped : List Cond := .code yX6_wrapped cX6_wrapped 1 (some .int) :: wsL_law
theorem gnX6_wrapped {Ts : List Cond} (hs : ∀ w ∈ wsL_law, w ∈ Ts) : GoodIn Ts qsX6_wrapped := pq_gn hs (pq_m12 _ (List.mem_of_getElem? (i := 6) rfl))
def qsX6_sign : List Cond := .code yX6_sign cX6_sign 1 (some .int) :: wsL_law
theorem gnX6_sign {Ts : List Cond} (hs : ∀ w ∈ wsL_law, w ∈ Ts) : GoodIn Ts qsX6_sign := pq_gn hs (pq_m10 _ (List.mem_of_getElem? (i := 20) rfl))
def qsX7_init : List Cond := .code yX7_init cX7_init 1 none :: wsL_law
theorem gnX7_init {Ts : List Cond} (hs : ∀ w ∈ wsL_law, w ∈ Ts) : GoodIn Ts qsX7_init := pq_gn hs (pq_m3 _ (List.mem_of_getElem? (i := 18) rfl))
def qsX7_isLine : List Cond := .code yX7_isLine cX7_isLine 2 (some .boolean) :: wsL_law
theorem gnX7_isLine {Ts : List Cond} (hs : ∀ w ∈ wsL_law, w ∈ Ts) : GoodIn Ts qsX7_isLine := pq_gn hs (pq_m6 _ (List.mem_of_getElem? (i := 22) rfl))
theorem gvX7_isLine {Ts : List Cond} {own : String} {idx : Nat} (hs : ∀ w ∈ wsL_law, w ∈ Ts) (h1 : Cond.methodLink own idx yX7_isLine ∈ wsL_law) : GoodIn Ts (wsV own idx RX7 yX7_isLine qsX7_isLine) := pq_gv hs h1 (pq_m6 _ (List.mem_of_getElem? (i := 20) rfl)) (pq_m6 _ (List.mem_of_getElem? (i := 21) rfl)) (pq_m1 _ (List.mem_of_getElem? (i := 5) rfl)) (pq_m6 _ (List.mem_of_getElem? (i := 22) rfl))
def qsX7_isOpen : List Cond := .code yX7_isOpen cX7_isOpen 2 (some .boolean) :: wsL_law
theorem gnX7_isOpen {Ts : List Cond} (hs : ∀ w ∈ wsL_law, w ∈ Ts) : GoodIn Ts qsX7_isOpen := pq_gn hs (pq_m15 _ (List.mem_of_getElem? (i := 19) rfl))
theorem gvX7_isOpen {Ts : List Cond} {own : String} {idx : Nat} (hs : ∀ w ∈ wsL_law, w ∈ Ts) (h1 : Cond.methodLink own idx yX7_isOpen ∈ wsL_law) : GoodIn Ts (wsV own idx RX7 yX7_isOpen qsX7_isOpen) := pq_gv hs h1 (pq_m15 _ (List.mem_of_getElem? (i := 17) rfl)) (pq_m15 _ (List.mem_of_getElem? (i := 18) rfl)) (pq_m1 _ (List.mem_of_getElem? (i := 5) rfl)) (pq_m15 _ (List.mem_of_getElem? (i := 19) rfl))
def qsX7_isPaired : List Cond := .code yX7_isPaired cX7_isPaired 2 (some .boolean) :: wsL_law
theorem gnX7_isPaired {Ts : List Cond} (hs : ∀ w ∈ wsL_law, w ∈ Ts) : GoodIn Ts qsX7_isPaired := pq_gn hs (pq_m15 _ (List.mem_of_getElem? (i := 23) rfl))
theorem gvX7_isPaired {Ts : List Cond} {own : String} {idx : Nat} (hs : ∀ w ∈ wsL_law, w ∈ Ts) (h1 : Cond.methodLink own idx yX7_isPaired ∈ wsL_law) : GoodIn Ts (wsV own idx RX7 yX7_isPaired qsX7_isPaired) := pq_gv hs h1 (pq_m15 _ (List.mem_of_getElem? (i := 21) rfl)) (pq_m15 _ (List.mem_of_getElem? (i := 22) rfl)) (pq_m1 _ (List.mem_of_getElem? (i := 5) rfl)) (pq_m15 _ (List.mem_of_getElem? (i := 23) rfl))
def qsX7_limited : List Cond := .code yX7_limited cX7_limited 2 (some .int) :: wsL_law
theorem gnX7_limited {Ts : List Cond} (hs : ∀ w ∈ wsL_law, w ∈ Ts) : GoodIn Ts qsX7_limited := pq_gn hs (pq_m19 _ (List.mem_of_getElem? (i := 14) rfl))
theorem gvX7_limited {Ts : List Cond} {own : String} {idx : Nat} (hs : ∀ w ∈ wsL_law, w ∈ Ts) (h1 : Cond.methodLink own idx yX7_limited ∈ wsL_law) : GoodIn Ts (wsV own idx RX7 yX7_limited qsX7_limited) := pq_gv hs h1 (pq_m19 _ (List.mem_of_getElem? (i := 12) rfl)) (pq_m19 _ (List.mem_of_getElem? (i := 13) rfl)) (pq_m1 _ (List.mem_of_getElem? (i := 5) rfl)) (pq_m19 _ (List.mem_of_getElem? (i := 14) rfl))
def qsX7_wrapped : List Cond := .code yX7_wrapped cX7_wrapped 2 (some .int) :: wsL_law
theorem gnX7_wrapped {Ts : List Cond} (hs : ∀ w ∈ wsL_law, w ∈ Ts) : GoodIn Ts qsX7_wrapped := pq_gn hs (pq_m17 _ (List.mem_of_getElem? (i := 22) rfl))
theorem gvX7_wrapped {Ts : List Cond} {own : String} {idx : Nat} (hs : ∀ w ∈ wsL_law, w ∈ Ts) (h1 : Cond.methodLink own idx yX7_wrapped ∈ wsL_law) : GoodIn Ts (wsV own idx RX7 yX7_wrapped qsX7_wrapped) := pq_gv hs h1 (pq_m17 _ (List.mem_of_getElem? (i := 20) rfl)) (pq_m17 _ (List.mem_of_getElem? (i := 21) rfl)) (pq_m1 _ (List.mem_of_getElem? (i := 5) rfl)) (pq_m17 _ (List.mem_of_getElem? (i := 22) rfl))
def qsX7_cut : List Cond := .code yX7_cut cX7_cut 4 (some .int) :: wsL_law
theorem gnX7_cut {Ts : List Cond} (hs : ∀ w ∈ wsL_law, w ∈ Ts) : GoodIn Ts qsX7_cut := pq_gn hs (pq_m18 _ (List.mem_of_getElem? (i := 22) rfl))
theorem gvX7_cut {Ts : List Cond} {own : String} {idx : Nat} (hs : ∀ w ∈ wsL_law, w ∈ Ts) (h1 : Cond.methodLink own idx yX7_cut ∈ wsL_law) : GoodIn Ts (wsV own idx RX7 yX7_cut qsX7_cut) := pq_gv hs h1 (pq_m18 _ (List.mem_of_getElem? (i := 20) rfl)) (pq_m18 _ (List.mem_of_getElem? (i := 21) rfl)) (pq_m1 _ (List.mem_of_getElem? (i := 5) rfl)) (pq_m18 _ (List.mem_of_getElem? (i := 22) rfl))
def qsX7_amount : List Cond := .code yX7_amount cX7_amount 2 (some .int) :: wsL_law
theorem gnX7_amount {Ts : List Cond} (hs : ∀ w ∈ wsL_law, w ∈ Ts) : GoodIn Ts qsX7_amount := pq_gn hs (pq_m16 _ (List.mem_of_getElem? (i := 19) rfl))
theorem gvX7_amount {Ts : List Cond} {own : String} {idx : Nat} (hs : ∀ w ∈ wsL_law, w ∈ Ts) (h1 : Cond.methodLink own idx yX7_amount ∈ wsL_law) : GoodIn Ts (wsV own idx RX7 yX7_amount qsX7_amount) := pq_gv hs h1 (pq_m16 _ (List.mem_of_getElem? (i := 17) rfl)) (pq_m16 _ (List.mem_of_getElem? (i := 18) rfl)) (pq_m1 _ (List.mem_of_getElem? (i := 5) rfl)) (pq_m16 _ (List.mem_of_getElem? (i := 19) rfl))
def qsX7_sign : List Cond := .code yX7_sign cX7_sign 2 (some .int) :: wsL_law
theorem gnX7_sign {Ts : List Cond} (hs : ∀ w ∈ wsL_law, w ∈ Ts) : GoodIn Ts qsX7_sign := pq_gn hs (pq_m16 _ (List.mem_of_getElem? (i := 15) rfl))
theorem gvX7_sign {Ts : List Cond} {own : String} {idx : Nat} (hs : ∀ w ∈ wsL_law, w ∈ Ts) (h1 : Cond.methodLink own idx yX7_sign ∈ wsL_law) : GoodIn Ts (wsV own idx RX7 yX7_sign qsX7_sign) := pq_gv hs h1 (pq_m16 _ (List.mem_of_getElem? (i := 13) rfl)) (pq_m16 _ (List.mem_of_getElem? (i := 14) rfl)) (pq_m1 _ (List.mem_of_getElem? (i := 5) rfl)) (pq_m16 _ (List.mem_of_getElem? (i := 15) rfl))
def qsX7_size : List Cond := .code yX7_size cX7_size 3 (some .int) :: wsL_law
theorem gnX7_size {Ts : List Cond} (hs : ∀ w ∈ wsL_law, w ∈ Ts) : GoodIn Ts qsX7_size := pq_gn hs (pq_m17 _ (List.mem_of_getElem? (i := 18) rfl))
theorem gvX7_size {Ts : List Cond} {own : String} {idx : Nat} (hs : ∀ w ∈ wsL_law, w ∈ Ts) (h1 : Cond.methodLink own idx yX7_size ∈ wsL_law) : GoodIn Ts (wsV own idx RX7 yX7_size qsX7_size) := pq_gv hs h1 (pq_m17 _ (List.mem_of_getElem? (i := 16) rfl)) (pq_m17 _ (List.mem_of_getElem? (i := 17) rfl)) (pq_m1 _ (List.mem_of_getElem? (i := 5) rfl)) (pq_m17 _ (List.mem_of_getElem? (i := 18) rfl))
def qsX7_open : List Cond := .code yX7_open cX7_open 5 (some .boolean) :: wsL_law
theorem gnX7_open {Ts : List Cond} (hs : ∀ w ∈ wsL_law, w ∈ Ts) : GoodIn Ts qsX7_open := pq_gn hs (pq_m6 _ (List.mem_of_getElem? (i := 16) rfl))
theorem gvX7_open {Ts : List Cond} {own : String} {idx : Nat} (hs : ∀ w ∈ wsL_law, w ∈ Ts) (h1 : Cond.methodLink own idx yX7_open ∈ wsL_law) : GoodIn Ts (wsV own idx RX7 yX7_open qsX7_open) := pq_gv hs h1 (pq_m6 _ (List.mem_of_getElem? (i := 14) rfl)) (pq_m6 _ (List.mem_of_getElem? (i := 15) rfl)) (pq_m1 _ (List.mem_of_getElem? (i := 5) rfl)) (pq_m6 _ (List.mem_of_getElem? (i := 16) rfl))
def qsX7_kind : List Cond := .code yX7_kind cX7_kind 2 (some .int) :: wsL_law
theorem gnX7_kind {Ts : List Cond} (hs : ∀ w ∈ wsL_law, w ∈ Ts) : GoodIn Ts qsX7_kind := pq_gn hs (pq_m7 _ (List.mem_of_getElem? (i := 11) rfl))
theorem gvX7_kind {Ts : List Cond} {own : String} {idx : Nat} (hs : ∀ w ∈ wsL_law, w ∈ Ts) (h1 : Cond.methodLink own idx yX7_kind ∈ wsL_law) : GoodIn Ts (wsV own idx RX7 yX7_kind qsX7_kind) := pq_gv hs h1 (pq_m7 _ (List.mem_of_getElem? (i := 9) rfl)) (pq_m7 _ (List.mem_of_getElem? (i := 10) rfl)) (pq_m1 _ (List.mem_of_getElem? (i := 5) rfl)) (pq_m7 _ (List.mem_of_getElem? (i := 11) rfl))
def qsX7_muSays : List Cond := .code yX7_muSays cX7_muSays 5 (some .int) :: wsL_law
theorem gnX7_muSays {Ts : List Cond} (hs : ∀ w ∈ wsL_law, w ∈ Ts) : GoodIn Ts qsX7_muSays := pq_gn hs (pq_m16 _ (List.mem_of_getElem? (i := 11) rfl))
theorem gvX7_muSays {Ts : List Cond} {own : String} {idx : Nat} (hs : ∀ w ∈ wsL_law, w ∈ Ts) (h1 : Cond.methodLink own idx yX7_muSays ∈ wsL_law) : GoodIn Ts (wsV own idx RX7 yX7_muSays qsX7_muSays) := pq_gv hs h1 (pq_m16 _ (List.mem_of_getElem? (i := 9) rfl)) (pq_m16 _ (List.mem_of_getElem? (i := 10) rfl)) (pq_m1 _ (List.mem_of_getElem? (i := 5) rfl)) (pq_m16 _ (List.mem_of_getElem? (i := 11) rfl))
def qsX7_muHears : List Cond := .code yX7_muHears cX7_muHears 4 (some .int) :: wsL_law
theorem gnX7_muHears {Ts : List Cond} (hs : ∀ w ∈ wsL_law, w ∈ Ts) : GoodIn Ts qsX7_muHears := pq_gn hs (pq_m23 _ (List.mem_of_getElem? (i := 7) rfl))
theorem gvX7_muHears {Ts : List Cond} {own : String} {idx : Nat} (hs : ∀ w ∈ wsL_law, w ∈ Ts) (h1 : Cond.methodLink own idx yX7_muHears ∈ wsL_law) : GoodIn Ts (wsV own idx RX7 yX7_muHears qsX7_muHears) := pq_gv hs h1 (pq_m23 _ (List.mem_of_getElem? (i := 5) rfl)) (pq_m23 _ (List.mem_of_getElem? (i := 6) rfl)) (pq_m1 _ (List.mem_of_getElem? (i := 5) rfl)) (pq_m23 _ (List.mem_of_getElem? (i := 7) rfl))
def qsX7_aSays : List Cond := .code yX7_aSays cX7_aSays 5 (some .int) :: wsL_law
theorem gnX7_aSays {Ts : List Cond} (hs : ∀ w ∈ wsL_law, w ∈ Ts) : GoodIn Ts qsX7_aSays := pq_gn hs (pq_m16 _ (List.mem_of_getElem? (i := 23) rfl))
theorem gvX7_aSays {Ts : List Cond} {own : String} {idx : Nat} (hs : ∀ w ∈ wsL_law, w ∈ Ts) (h1 : Cond.methodLink own idx yX7_aSays ∈ wsL_law) : GoodIn Ts (wsV own idx RX7 yX7_aSays qsX7_aSays) := pq_gv hs h1 (pq_m16 _ (List.mem_of_getElem? (i := 21) rfl)) (pq_m16 _ (List.mem_of_getElem? (i := 22) rfl)) (pq_m1 _ (List.mem_of_getElem? (i := 5) rfl)) (pq_m16 _ (List.mem_of_getElem? (i := 23) rfl))
def qsX7_aHears : List Cond := .code yX7_aHears cX7_aHears 5 (some .int) :: wsL_law
theorem gnX7_aHears {Ts : List Cond} (hs : ∀ w ∈ wsL_law, w ∈ Ts) : GoodIn Ts qsX7_aHears := pq_gn hs (pq_m23 _ (List.mem_of_getElem? (i := 11) rfl))
theorem gvX7_aHears {Ts : List Cond} {own : String} {idx : Nat} (hs : ∀ w ∈ wsL_law, w ∈ Ts) (h1 : Cond.methodLink own idx yX7_aHears ∈ wsL_law) : GoodIn Ts (wsV own idx RX7 yX7_aHears qsX7_aHears) := pq_gv hs h1 (pq_m23 _ (List.mem_of_getElem? (i := 9) rfl)) (pq_m23 _ (List.mem_of_getElem? (i := 10) rfl)) (pq_m1 _ (List.mem_of_getElem? (i := 5) rfl)) (pq_m23 _ (List.mem_of_getElem? (i := 11) rfl))
def qsX7_bound : List Cond := .code yX7_bound cX7_bound 3 (some .int) :: wsL_law
theorem gnX7_bound {Ts : List Cond} (hs : ∀ w ∈ wsL_law, w ∈ Ts) : GoodIn Ts qsX7_bound := pq_gn hs (pq_m18 _ (List.mem_of_getElem? (i := 2) rfl))
theorem gvX7_bound {Ts : List Cond} {own : String} {idx : Nat} (hs : ∀ w ∈ wsL_law, w ∈ Ts) (h1 : Cond.methodLink own idx yX7_bound ∈ wsL_law) : GoodIn Ts (wsV own idx RX7 yX7_bound qsX7_bound) := pq_gv hs h1 (pq_m18 _ (List.mem_of_getElem? (i := 0) rfl)) (pq_m18 _ (List.mem_of_getElem? (i := 1) rfl)) (pq_m1 _ (List.mem_of_getElem? (i := 5) rfl)) (pq_m18 _ (List.mem_of_getElem? (i := 2) rfl))
def qsX7_half : List Cond := .code yX7_half cX7_half 3 (some .int) :: wsL_law
theorem gnX7_half {Ts : List Cond} (hs : ∀ w ∈ wsL_law, w ∈ Ts) : GoodIn Ts qsX7_half := pq_gn hs (pq_m18 _ (List.mem_of_getElem? (i := 14) rfl))
theorem gvX7_half {Ts : List Cond} {own : String} {idx : Nat} (hs : ∀ w ∈ wsL_law, w ∈ Ts) (h1 : Cond.methodLink own idx yX7_half ∈ wsL_law) : GoodIn Ts (wsV own idx RX7 yX7_half qsX7_half) := pq_gv hs h1 (pq_m18 _ (List.mem_of_getElem? (i := 12) rfl)) (pq_m18 _ (List.mem_of_getElem? (i := 13) rfl)) (pq_m1 _ (List.mem_of_getElem? (i := 5) rfl)) (pq_m18 _ (List.mem_of_getElem? (i := 14) rfl))
def qsX7_table : List Cond := .code yX7_table cX7_table 4 (some .int) :: wsL_law
theorem gnX7_table {Ts : List Cond} (hs : ∀ w ∈ wsL_law, w ∈ Ts) : GoodIn Ts qsX7_table := pq_gn hs (pq_m18 _ (List.mem_of_getElem? (i := 10) rfl))
theorem gvX7_table {Ts : List Cond} {own : String} {idx : Nat} (hs : ∀ w ∈ wsL_law, w ∈ Ts) (h1 : Cond.methodLink own idx yX7_table ∈ wsL_law) : GoodIn Ts (wsV own idx RX7 yX7_table qsX7_table) := pq_gv hs h1 (pq_m18 _ (List.mem_of_getElem? (i := 8) rfl)) (pq_m18 _ (List.mem_of_getElem? (i := 9) rfl)) (pq_m1 _ (List.mem_of_getElem? (i := 5) rfl)) (pq_m18 _ (List.mem_of_getElem? (i := 10) rfl))
def qsX7_weight : List Cond := .code yX7_weight cX7_weight 4 (some .int) :: wsL_law
theorem gnX7_weight {Ts : List Cond} (hs : ∀ w ∈ wsL_law, w ∈ Ts) : GoodIn Ts qsX7_weight := pq_gn hs (pq_m18 _ (List.mem_of_getElem? (i := 18) rfl))
theorem gvX7_weight {Ts : List Cond} {own : String} {idx : Nat} (hs : ∀ w ∈ wsL_law, w ∈ Ts) (h1 : Cond.methodLink own idx yX7_weight ∈ wsL_law) : GoodIn Ts (wsV own idx RX7 yX7_weight qsX7_weight) := pq_gv hs h1 (pq_m18 _ (List.mem_of_getElem? (i := 16) rfl)) (pq_m18 _ (List.mem_of_getElem? (i := 17) rfl)) (pq_m1 _ (List.mem_of_getElem? (i := 5) rfl)) (pq_m18 _ (List.mem_of_getElem? (i := 18) rfl))
def qsX7_pace : List Cond := .code yX7_pace cX7_pace 4 (some .int) :: wsL_law
theorem gnX7_pace {Ts : List Cond} (hs : ∀ w ∈ wsL_law, w ∈ Ts) : GoodIn Ts qsX7_pace := pq_gn hs (pq_m19 _ (List.mem_of_getElem? (i := 10) rfl))
theorem gvX7_pace {Ts : List Cond} {own : String} {idx : Nat} (hs : ∀ w ∈ wsL_law, w ∈ Ts) (h1 : Cond.methodLink own idx yX7_pace ∈ wsL_law) : GoodIn Ts (wsV own idx RX7 yX7_pace qsX7_pace) := pq_gv hs h1 (pq_m19 _ (List.mem_of_getElem? (i := 8) rfl)) (pq_m19 _ (List.mem_of_getElem? (i := 9) rfl)) (pq_m1 _ (List.mem_of_getElem? (i := 5) rfl)) (pq_m19 _ (List.mem_of_getElem? (i := 10) rfl))
def qsX7_times : List Cond := .code yX7_times cX7_times 9 (some .int) :: wsL_law
theorem gnX7_times {Ts : List Cond} (hs : ∀ w ∈ wsL_law, w ∈ Ts) : GoodIn Ts qsX7_times := pq_gn hs (pq_m17 _ (List.mem_of_getElem? (i := 14) rfl))
theorem gvX7_times {Ts : List Cond} {own : String} {idx : Nat} (hs : ∀ w ∈ wsL_law, w ∈ Ts) (h1 : Cond.methodLink own idx yX7_times ∈ wsL_law) : GoodIn Ts (wsV own idx RX7 yX7_times qsX7_times) := pq_gv hs h1 (pq_m17 _ (List.mem_of_getElem? (i := 12) rfl)) (pq_m17 _ (List.mem_of_getElem? (i := 13) rfl)) (pq_m1 _ (List.mem_of_getElem? (i := 5) rfl)) (pq_m17 _ (List.mem_of_getElem? (i := 14) rfl))
def qsX7_forehand : List Cond := .code yX7_forehand cX7_forehand 7 none :: wsL_law
theorem gnX7_forehand {Ts : List Cond} (hs : ∀ w ∈ wsL_law, w ∈ Ts) : GoodIn Ts qsX7_forehand := pq_gn hs (pq_m17 _ (List.mem_of_getElem? (i := 9) rfl))
theorem gvX7_forehand {Ts : List Cond} {own : String} {idx : Nat} (hs : ∀ w ∈ wsL_law, w ∈ Ts) (h1 : Cond.methodLink own idx yX7_forehand ∈ wsL_law) : GoodIn Ts (wsV own idx RX7 yX7_forehand qsX7_forehand) := pq_gv hs h1 (pq_m17 _ (List.mem_of_getElem? (i := 7) rfl)) (pq_m17 _ (List.mem_of_getElem? (i := 8) rfl)) (pq_m1 _ (List.mem_of_getElem? (i := 5) rfl)) (pq_m17 _ (List.mem_of_getElem? (i := 9) rfl))
def qsX7_says726 : List Cond := .code yX7_says726 cX7_says726 11 (some .int) :: wsL_law
theorem gnX7_says726 {Ts : List Cond} (hs : ∀ w ∈ wsL_law, w ∈ Ts) : GoodIn Ts qsX7_says726 := pq_gn hs (pq_m17 _ (List.mem_of_getElem? (i := 3) rfl))
theorem gvX7_says726 {Ts : List Cond} {own : String} {idx : Nat} (hs : ∀ w ∈ wsL_law, w ∈ Ts) (h1 : Cond.methodLink own idx yX7_says726 ∈ wsL_law) : GoodIn Ts (wsV own idx RX7 yX7_says726 qsX7_says726) := pq_gv hs h1 (pq_m17 _ (List.mem_of_getElem? (i := 1) rfl)) (pq_m17 _ (List.mem_of_getElem? (i := 2) rfl)) (pq_m1 _ (List.mem_of_getElem? (i := 5) rfl)) (pq_m17 _ (List.mem_of_getElem? (i := 3) rfl))
def qsX7_hears726 : List Cond := .code yX7_hears726 cX7_hears726 4 (some .int) :: wsL_law
theorem gnX7_hears726 {Ts : List Cond} (hs : ∀ w ∈ wsL_law, w ∈ Ts) : GoodIn Ts qsX7_hears726 := pq_gn hs (pq_m23 _ (List.mem_of_getElem? (i := 15) rfl))
theorem gvX7_hears726 {Ts : List Cond} {own : String} {idx : Nat} (hs : ∀ w ∈ wsL_law, w ∈ Ts) (h1 : Cond.methodLink own idx yX7_hears726 ∈ wsL_law) : GoodIn Ts (wsV own idx RX7 yX7_hears726 qsX7_hears726) := pq_gv hs h1 (pq_m23 _ (List.mem_of_getElem? (i := 13) rfl)) (pq_m23 _ (List.mem_of_getElem? (i := 14) rfl)) (pq_m1 _ (List.mem_of_getElem? (i := 5) rfl)) (pq_m23 _ (List.mem_of_getElem? (i := 15) rfl))
def qsX7_floated : List Cond := .code yX7_floated cX7_floated 5 (some .int) :: wsL_law
theorem gnX7_floated {Ts : List Cond} (hs : ∀ w ∈ wsL_law, w ∈ Ts) : GoodIn Ts qsX7_floated := pq_gn hs (pq_m19 _ (List.mem_of_getElem? (i := 6) rfl))
theorem gvX7_floated {Ts : List Cond} {own : String} {idx : Nat} (hs : ∀ w ∈ wsL_law, w ∈ Ts) (h1 : Cond.methodLink own idx yX7_floated ∈ wsL_law) : GoodIn Ts (wsV own idx RX7 yX7_floated qsX7_floated) := pq_gv hs h1 (pq_m19 _ (List.mem_of_getElem? (i := 4) rfl)) (pq_m19 _ (List.mem_of_getElem? (i := 5) rfl)) (pq_m1 _ (List.mem_of_getElem? (i := 5) rfl)) (pq_m19 _ (List.mem_of_getElem? (i := 6) rfl))
def qsX7_comes : List Cond := .code yX7_comes cX7_comes 16 (some .int) :: wsL_law
theorem gnX7_comes {Ts : List Cond} (hs : ∀ w ∈ wsL_law, w ∈ Ts) : GoodIn Ts qsX7_comes := pq_gn hs (pq_m18 _ (List.mem_of_getElem? (i := 6) rfl))
theorem gvX7_comes {Ts : List Cond} {own : String} {idx : Nat} (hs : ∀ w ∈ wsL_law, w ∈ Ts) (h1 : Cond.methodLink own idx yX7_comes ∈ wsL_law) : GoodIn Ts (wsV own idx RX7 yX7_comes qsX7_comes) := pq_gv hs h1 (pq_m18 _ (List.mem_of_getElem? (i := 4) rfl)) (pq_m18 _ (List.mem_of_getElem? (i := 5) rfl)) (pq_m1 _ (List.mem_of_getElem? (i := 5) rfl)) (pq_m18 _ (List.mem_of_getElem? (i := 6) rfl))
def qsX7_adapts : List Cond := .code yX7_adapts cX7_adapts 10 (some .int) :: wsL_law
theorem gnX7_adapts {Ts : List Cond} (hs : ∀ w ∈ wsL_law, w ∈ Ts) : GoodIn Ts qsX7_adapts := pq_gn hs (pq_m19 _ (List.mem_of_getElem? (i := 2) rfl))
theorem gvX7_adapts {Ts : List Cond} {own : String} {idx : Nat} (hs : ∀ w ∈ wsL_law, w ∈ Ts) (h1 : Cond.methodLink own idx yX7_adapts ∈ wsL_law) : GoodIn Ts (wsV own idx RX7 yX7_adapts qsX7_adapts) := pq_gv hs h1 (pq_m19 _ (List.mem_of_getElem? (i := 0) rfl)) (pq_m19 _ (List.mem_of_getElem? (i := 1) rfl)) (pq_m1 _ (List.mem_of_getElem? (i := 5) rfl)) (pq_m19 _ (List.mem_of_getElem? (i := 2) rfl))
def qsX7_heardBy : List Cond := .code yX7_heardBy cX7_heardBy 4 (some .int) :: wsL_law
theorem gnX7_heardBy {Ts : List Cond} (hs : ∀ w ∈ wsL_law, w ∈ Ts) : GoodIn Ts qsX7_heardBy := pq_gn hs (pq_m23 _ (List.mem_of_getElem? (i := 23) rfl))
theorem gvX7_heardBy {Ts : List Cond} {own : String} {idx : Nat} (hs : ∀ w ∈ wsL_law, w ∈ Ts) (h1 : Cond.methodLink own idx yX7_heardBy ∈ wsL_law) : GoodIn Ts (wsV own idx RX7 yX7_heardBy qsX7_heardBy) := pq_gv hs h1 (pq_m23 _ (List.mem_of_getElem? (i := 21) rfl)) (pq_m23 _ (List.mem_of_getElem? (i := 22) rfl)) (pq_m1 _ (List.mem_of_getElem? (i := 5) rfl)) (pq_m23 _ (List.mem_of_getElem? (i := 23) rfl))
def qsX7_sieves : List Cond := .code yX7_sieves cX7_sieves 6 none :: wsL_law
theorem gnX7_sieves {Ts : List Cond} (hs : ∀ w ∈ wsL_law, w ∈ Ts) : GoodIn Ts qsX7_sieves := pq_gn hs (pq_m20 _ (List.mem_of_getElem? (i := 8) rfl))
theorem gvX7_sieves {Ts : List Cond} {own : String} {idx : Nat} (hs : ∀ w ∈ wsL_law, w ∈ Ts) (h1 : Cond.methodLink own idx yX7_sieves ∈ wsL_law) : GoodIn Ts (wsV own idx RX7 yX7_sieves qsX7_sieves) := pq_gv hs h1 (pq_m20 _ (List.mem_of_getElem? (i := 6) rfl)) (pq_m20 _ (List.mem_of_getElem? (i := 7) rfl)) (pq_m1 _ (List.mem_of_getElem? (i := 5) rfl)) (pq_m20 _ (List.mem_of_getElem? (i := 8) rfl))
def qsX7_says722 : List Cond := .code yX7_says722 cX7_says722 13 (some .int) :: wsL_law
theorem gnX7_says722 {Ts : List Cond} (hs : ∀ w ∈ wsL_law, w ∈ Ts) : GoodIn Ts qsX7_says722 := pq_gn hs (pq_m20 _ (List.mem_of_getElem? (i := 2) rfl))
theorem gvX7_says722 {Ts : List Cond} {own : String} {idx : Nat} (hs : ∀ w ∈ wsL_law, w ∈ Ts) (h1 : Cond.methodLink own idx yX7_says722 ∈ wsL_law) : GoodIn Ts (wsV own idx RX7 yX7_says722 qsX7_says722) := pq_gv hs h1 (pq_m20 _ (List.mem_of_getElem? (i := 0) rfl)) (pq_m20 _ (List.mem_of_getElem? (i := 1) rfl)) (pq_m1 _ (List.mem_of_getElem? (i := 5) rfl)) (pq_m20 _ (List.mem_of_getElem? (i := 2) rfl))
def qsX7_root : List Cond := .code yX7_root cX7_root 5 (some .int) :: wsL_law
theorem gnX7_root {Ts : List Cond} (hs : ∀ w ∈ wsL_law, w ∈ Ts) : GoodIn Ts qsX7_root := pq_gn hs (pq_m20 _ (List.mem_of_getElem? (i := 16) rfl))
theorem gvX7_root {Ts : List Cond} {own : String} {idx : Nat} (hs : ∀ w ∈ wsL_law, w ∈ Ts) (h1 : Cond.methodLink own idx yX7_root ∈ wsL_law) : GoodIn Ts (wsV own idx RX7 yX7_root qsX7_root) := pq_gv hs h1 (pq_m20 _ (List.mem_of_getElem? (i := 14) rfl)) (pq_m20 _ (List.mem_of_getElem? (i := 15) rfl)) (pq_m1 _ (List.mem_of_getElem? (i := 5) rfl)) (pq_m20 _ (List.mem_of_getElem? (i := 16) rfl))
def qsX7_both : List Cond := .code yX7_both cX7_both 8 none :: wsL_law
theorem gnX7_both {Ts : List Cond} (hs : ∀ w ∈ wsL_law, w ∈ Ts) : GoodIn Ts qsX7_both := pq_gn hs (pq_m20 _ (List.mem_of_getElem? (i := 12) rfl))
theorem gvX7_both {Ts : List Cond} {own : String} {idx : Nat} (hs : ∀ w ∈ wsL_law, w ∈ Ts) (h1 : Cond.methodLink own idx yX7_both ∈ wsL_law) : GoodIn Ts (wsV own idx RX7 yX7_both qsX7_both) := pq_gv hs h1 (pq_m20 _ (List.mem_of_getElem? (i := 10) rfl)) (pq_m20 _ (List.mem_of_getElem? (i := 11) rfl)) (pq_m1 _ (List.mem_of_getElem? (i := 5) rfl)) (pq_m20 _ (List.mem_of_getElem? (i := 12) rfl))
def qsX7_goesOn : List Cond := .code yX7_goesOn cX7_goesOn 14 none :: wsL_law
theorem gnX7_goesOn {Ts : List Cond} (hs : ∀ w ∈ wsL_law, w ∈ Ts) : GoodIn Ts qsX7_goesOn := pq_gn hs (pq_m20 _ (List.mem_of_getElem? (i := 20) rfl))
theorem gvX7_goesOn {Ts : List Cond} {own : String} {idx : Nat} (hs : ∀ w ∈ wsL_law, w ∈ Ts) (h1 : Cond.methodLink own idx yX7_goesOn ∈ wsL_law) : GoodIn Ts (wsV own idx RX7 yX7_goesOn qsX7_goesOn) := pq_gv hs h1 (pq_m20 _ (List.mem_of_getElem? (i := 18) rfl)) (pq_m20 _ (List.mem_of_getElem? (i := 19) rfl)) (pq_m1 _ (List.mem_of_getElem? (i := 5) rfl)) (pq_m20 _ (List.mem_of_getElem? (i := 20) rfl))
def qsX7_hears722 : List Cond := .code yX7_hears722 cX7_hears722 9 (some .int) :: wsL_law
theorem gnX7_hears722 {Ts : List Cond} (hs : ∀ w ∈ wsL_law, w ∈ Ts) : GoodIn Ts qsX7_hears722 := pq_gn hs (pq_m23 _ (List.mem_of_getElem? (i := 19) rfl))
theorem gvX7_hears722 {Ts : List Cond} {own : String} {idx : Nat} (hs : ∀ w ∈ wsL_law, w ∈ Ts) (h1 : Cond.methodLink own idx yX7_hears722 ∈ wsL_law) : GoodIn Ts (wsV own idx RX7 yX7_hears722 qsX7_hears722) := pq_gv hs h1 (pq_m23 _ (List.mem_of_getElem? (i := 17) rfl)) (pq_m23 _ (List.mem_of_getElem? (i := 18) rfl)) (pq_m1 _ (List.mem_of_getElem? (i := 5) rfl)) (pq_m23 _ (List.mem_of_getElem? (i := 19) rfl))
def qsX7_isSample : List Cond := .code yX7_isSample cX7_isSample 2 (some .boolean) :: wsL_law
theorem gnX7_isSample {Ts : List Cond} (hs : ∀ w ∈ wsL_law, w ∈ Ts) : GoodIn Ts qsX7_isSample := pq_gn hs (pq_m16 _ (List.mem_of_getElem? (i := 3) rfl))
theorem gvX7_isSample {Ts : List Cond} {own : String} {idx : Nat} (hs : ∀ w ∈ wsL_law, w ∈ Ts) (h1 : Cond.methodLink own idx yX7_isSample ∈ wsL_law) : GoodIn Ts (wsV own idx RX7 yX7_isSample qsX7_isSample) := pq_gv hs h1 (pq_m16 _ (List.mem_of_getElem? (i := 1) rfl)) (pq_m16 _ (List.mem_of_getElem? (i := 2) rfl)) (pq_m1 _ (List.mem_of_getElem? (i := 5) rfl)) (pq_m16 _ (List.mem_of_getElem? (i := 3) rfl))
def qsX7_bitsOf : List Cond := .code yX7_bitsOf cX7_bitsOf 2 (some .int) :: wsL_law
theorem gnX7_bitsOf {Ts : List Cond} (hs : ∀ w ∈ wsL_law, w ∈ Ts) : GoodIn Ts qsX7_bitsOf := pq_gn hs (pq_m22 _ (List.mem_of_getElem? (i := 23) rfl))
theorem gvX7_bitsOf {Ts : List Cond} {own : String} {idx : Nat} (hs : ∀ w ∈ wsL_law, w ∈ Ts) (h1 : Cond.methodLink own idx yX7_bitsOf ∈ wsL_law) : GoodIn Ts (wsV own idx RX7 yX7_bitsOf qsX7_bitsOf) := pq_gv hs h1 (pq_m22 _ (List.mem_of_getElem? (i := 21) rfl)) (pq_m22 _ (List.mem_of_getElem? (i := 22) rfl)) (pq_m1 _ (List.mem_of_getElem? (i := 5) rfl)) (pq_m22 _ (List.mem_of_getElem? (i := 23) rfl))
def qsX7_says : List Cond := .code yX7_says cX7_says 3 (some .int) :: wsL_law
theorem gnX7_says {Ts : List Cond} (hs : ∀ w ∈ wsL_law, w ∈ Ts) : GoodIn Ts qsX7_says := pq_gn hs (pq_m16 _ (List.mem_of_getElem? (i := 7) rfl))
theorem gvX7_says {Ts : List Cond} {own : String} {idx : Nat} (hs : ∀ w ∈ wsL_law, w ∈ Ts) (h1 : Cond.methodLink own idx yX7_says ∈ wsL_law) : GoodIn Ts (wsV own idx RX7 yX7_says qsX7_says) := pq_gv hs h1 (pq_m16 _ (List.mem_of_getElem? (i := 5) rfl)) (pq_m16 _ (List.mem_of_getElem? (i := 6) rfl)) (pq_m1 _ (List.mem_of_getElem? (i := 5) rfl)) (pq_m16 _ (List.mem_of_getElem? (i := 7) rfl))
def qsX7_hears : List Cond := .code yX7_hears cX7_hears 3 (some .int) :: wsL_law
theorem gnX7_hears {Ts : List Cond} (hs : ∀ w ∈ wsL_law, w ∈ Ts) : GoodIn Ts qsX7_hears := pq_gn hs (pq_m23 _ (List.mem_of_getElem? (i := 3) rfl))
theorem gvX7_hears {Ts : List Cond} {own : String} {idx : Nat} (hs : ∀ w ∈ wsL_law, w ∈ Ts) (h1 : Cond.methodLink own idx yX7_hears ∈ wsL_law) : GoodIn Ts (wsV own idx RX7 yX7_hears qsX7_hears) := pq_gv hs h1 (pq_m23 _ (List.mem_of_getElem? (i := 1) rfl)) (pq_m23 _ (List.mem_of_getElem? (i := 2) rfl)) (pq_m1 _ (List.mem_of_getElem? (i := 5) rfl)) (pq_m23 _ (List.mem_of_getElem? (i := 3) rfl))
def qsX7_say : List Cond := .code yX7_say cX7_say 3 (some .int) :: wsL_law
theorem gnX7_say {Ts : List Cond} (hs : ∀ w ∈ wsL_law, w ∈ Ts) : GoodIn Ts qsX7_say := pq_gn hs (pq_m15 _ (List.mem_of_getElem? (i := 15) rfl))
theorem gvX7_say {Ts : List Cond} {own : String} {idx : Nat} (hs : ∀ w ∈ wsL_law, w ∈ Ts) (h1 : Cond.methodLink own idx yX7_say ∈ wsL_law) : GoodIn Ts (wsV own idx RX7 yX7_say qsX7_say) := pq_gv hs h1 (pq_m15 _ (List.mem_of_getElem? (i := 13) rfl)) (pq_m15 _ (List.mem_of_getElem? (i := 14) rfl)) (pq_m1 _ (List.mem_of_getElem? (i := 5) rfl)) (pq_m15 _ (List.mem_of_getElem? (i := 15) rfl))
def qsX7_pair : List Cond := .code yX7_pair cX7_pair 4 (some .int) :: wsL_law
theorem gnX7_pair {Ts : List Cond} (hs : ∀ w ∈ wsL_law, w ∈ Ts) : GoodIn Ts qsX7_pair := pq_gn hs (pq_m19 _ (List.mem_of_getElem? (i := 22) rfl))
theorem gvX7_pair {Ts : List Cond} {own : String} {idx : Nat} (hs : ∀ w ∈ wsL_law, w ∈ Ts) (h1 : Cond.methodLink own idx yX7_pair ∈ wsL_law) : GoodIn Ts (wsV own idx RX7 yX7_pair qsX7_pair) := pq_gv hs h1 (pq_m19 _ (List.mem_of_getElem? (i := 20) rfl)) (pq_m19 _ (List.mem_of_getElem? (i := 21) rfl)) (pq_m1 _ (List.mem_of_getElem? (i := 5) rfl)) (pq_m19 _ (List.mem_of_getElem? (i := 22) rfl))
def qsX7_isCode : List Cond := .code yX7_isCode cX7_isCode 3 (some .boolean) :: wsL_law
theorem gnX7_isCode {Ts : List Cond} (hs : ∀ w ∈ wsL_law, w ∈ Ts) : GoodIn Ts qsX7_isCode := pq_gn hs (pq_m22 _ (List.mem_of_getElem? (i := 19) rfl))
theorem gvX7_isCode {Ts : List Cond} {own : String} {idx : Nat} (hs : ∀ w ∈ wsL_law, w ∈ Ts) (h1 : Cond.methodLink own idx yX7_isCode ∈ wsL_law) : GoodIn Ts (wsV own idx RX7 yX7_isCode qsX7_isCode) := pq_gv hs h1 (pq_m22 _ (List.mem_of_getElem? (i := 17) rfl)) (pq_m22 _ (List.mem_of_getElem? (i := 18) rfl)) (pq_m1 _ (List.mem_of_getElem? (i := 5) rfl)) (pq_m22 _ (List.mem_of_getElem? (i := 19) rfl))
def qsX7_hear : List Cond := .code yX7_hear cX7_hear 3 (some .int) :: wsL_law
theorem gnX7_hear {Ts : List Cond} (hs : ∀ w ∈ wsL_law, w ∈ Ts) : GoodIn Ts qsX7_hear := pq_gn hs (pq_m22 _ (List.mem_of_getElem? (i := 15) rfl))
theorem gvX7_hear {Ts : List Cond} {own : String} {idx : Nat} (hs : ∀ w ∈ wsL_law, w ∈ Ts) (h1 : Cond.methodLink own idx yX7_hear ∈ wsL_law) : GoodIn Ts (wsV own idx RX7 yX7_hear qsX7_hear) := pq_gv hs h1 (pq_m22 _ (List.mem_of_getElem? (i := 13) rfl)) (pq_m22 _ (List.mem_of_getElem? (i := 14) rfl)) (pq_m1 _ (List.mem_of_getElem? (i := 5) rfl)) (pq_m22 _ (List.mem_of_getElem? (i := 15) rfl))
def qsX7_second : List Cond := .code yX7_second cX7_second 2 (some .int) :: wsL_law
theorem gnX7_second {Ts : List Cond} (hs : ∀ w ∈ wsL_law, w ∈ Ts) : GoodIn Ts qsX7_second := pq_gn hs (pq_m24 _ (List.mem_of_getElem? (i := 11) rfl))
theorem gvX7_second {Ts : List Cond} {own : String} {idx : Nat} (hs : ∀ w ∈ wsL_law, w ∈ Ts) (h1 : Cond.methodLink own idx yX7_second ∈ wsL_law) : GoodIn Ts (wsV own idx RX7 yX7_second qsX7_second) := pq_gv hs h1 (pq_m24 _ (List.mem_of_getElem? (i := 9) rfl)) (pq_m24 _ (List.mem_of_getElem? (i := 10) rfl)) (pq_m1 _ (List.mem_of_getElem? (i := 5) rfl)) (pq_m24 _ (List.mem_of_getElem? (i := 11) rfl))
def qsX7_inner : List Cond := .code yX7_inner cX7_inner 5 (some .int) :: wsL_law
theorem gnX7_inner {Ts : List Cond} (hs : ∀ w ∈ wsL_law, w ∈ Ts) : GoodIn Ts qsX7_inner := pq_gn hs (pq_m25 _ (List.mem_of_getElem? (i := 14) rfl))
theorem gvX7_inner {Ts : List Cond} {own : String} {idx : Nat} (hs : ∀ w ∈ wsL_law, w ∈ Ts) (h1 : Cond.methodLink own idx yX7_inner ∈ wsL_law) : GoodIn Ts (wsV own idx RX7 yX7_inner qsX7_inner) := pq_gv hs h1 (pq_m25 _ (List.mem_of_getElem? (i := 12) rfl)) (pq_m25 _ (List.mem_of_getElem? (i := 13) rfl)) (pq_m1 _ (List.mem_of_getElem? (i := 5) rfl)) (pq_m25 _ (List.mem_of_getElem? (i := 14) rfl))
def qsX7_puts : List Cond := .code yX7_puts cX7_puts 3 none :: wsL_law
theorem gnX7_puts {Ts : List Cond} (hs : ∀ w ∈ wsL_law, w ∈ Ts) : GoodIn Ts qsX7_puts := pq_gn hs (pq_m26 _ (List.mem_of_getElem? (i := 11) rfl))
theorem gvX7_puts {Ts : List Cond} {own : String} {idx : Nat} (hs : ∀ w ∈ wsL_law, w ∈ Ts) (h1 : Cond.methodLink own idx yX7_puts ∈ wsL_law) : GoodIn Ts (wsV own idx RX7 yX7_puts qsX7_puts) := pq_gv hs h1 (pq_m26 _ (List.mem_of_getElem? (i := 9) rfl)) (pq_m26 _ (List.mem_of_getElem? (i := 10) rfl)) (pq_m1 _ (List.mem_of_getElem? (i := 5) rfl)) (pq_m26 _ (List.mem_of_getElem? (i := 11) rfl))
def qsX7_feed : List Cond := .code yX7_feed cX7_feed 6 (some .int) :: wsL_law
theorem gnX7_feed {Ts : List Cond} (hs : ∀ w ∈ wsL_law, w ∈ Ts) : GoodIn Ts qsX7_feed := pq_gn hs (pq_m26 _ (List.mem_of_getElem? (i := 6) rfl))
theorem gvX7_feed {Ts : List Cond} {own : String} {idx : Nat} (hs : ∀ w ∈ wsL_law, w ∈ Ts) (h1 : Cond.methodLink own idx yX7_feed ∈ wsL_law) : GoodIn Ts (wsV own idx RX7 yX7_feed qsX7_feed) := pq_gv hs h1 (pq_m26 _ (List.mem_of_getElem? (i := 4) rfl)) (pq_m26 _ (List.mem_of_getElem? (i := 5) rfl)) (pq_m1 _ (List.mem_of_getElem? (i := 5) rfl)) (pq_m26 _ (List.mem_of_getElem? (i := 6) rfl))
def qsX7_end : List Cond := .code yX7_end cX7_end 2 (some .int) :: wsL_law
theorem gnX7_end {Ts : List Cond} (hs : ∀ w ∈ wsL_law, w ∈ Ts) : GoodIn Ts qsX7_end := pq_gn hs (pq_m26 _ (List.mem_of_getElem? (i := 19) rfl))
theorem gvX7_end {Ts : List Cond} {own : String} {idx : Nat} (hs : ∀ w ∈ wsL_law, w ∈ Ts) (h1 : Cond.methodLink own idx yX7_end ∈ wsL_law) : GoodIn Ts (wsV own idx RX7 yX7_end qsX7_end) := pq_gv hs h1 (pq_m26 _ (List.mem_of_getElem? (i := 17) rfl)) (pq_m26 _ (List.mem_of_getElem? (i := 18) rfl)) (pq_m1 _ (List.mem_of_getElem? (i := 5) rfl)) (pq_m26 _ (List.mem_of_getElem? (i := 19) rfl))
def qsX7_take : List Cond := .code yX7_take cX7_take 2 (some .int) :: wsL_law
theorem gnX7_take {Ts : List Cond} (hs : ∀ w ∈ wsL_law, w ∈ Ts) : GoodIn Ts qsX7_take := pq_gn hs (pq_m27 _ (List.mem_of_getElem? (i := 7) rfl))
theorem gvX7_take {Ts : List Cond} {own : String} {idx : Nat} (hs : ∀ w ∈ wsL_law, w ∈ Ts) (h1 : Cond.methodLink own idx yX7_take ∈ wsL_law) : GoodIn Ts (wsV own idx RX7 yX7_take qsX7_take) := pq_gv hs h1 (pq_m27 _ (List.mem_of_getElem? (i := 5) rfl)) (pq_m27 _ (List.mem_of_getElem? (i := 6) rfl)) (pq_m1 _ (List.mem_of_getElem? (i := 5) rfl)) (pq_m27 _ (List.mem_of_getElem? (i := 7) rfl))
def qsX7_out : List Cond := .code yX7_out cX7_out 2 (some .int) :: wsL_law
theorem gnX7_out {Ts : List Cond} (hs : ∀ w ∈ wsL_law, w ∈ Ts) : GoodIn Ts qsX7_out := pq_gn hs (pq_m27 _ (List.mem_of_getElem? (i := 21) rfl))
theorem gvX7_out {Ts : List Cond} {own : String} {idx : Nat} (hs : ∀ w ∈ wsL_law, w ∈ Ts) (h1 : Cond.methodLink own idx yX7_out ∈ wsL_law) : GoodIn Ts (wsV own idx RX7 yX7_out qsX7_out) := pq_gv hs h1 (pq_m27 _ (List.mem_of_getElem? (i := 19) rfl)) (pq_m27 _ (List.mem_of_getElem? (i := 20) rfl)) (pq_m1 _ (List.mem_of_getElem? (i := 5) rfl)) (pq_m27 _ (List.mem_of_getElem? (i := 21) rfl))
def qsX7_sampleAt : List Cond := .code yX7_sampleAt cX7_sampleAt 2 (some .int) :: wsL_law
theorem gnX7_sampleAt {Ts : List Cond} (hs : ∀ w ∈ wsL_law, w ∈ Ts) : GoodIn Ts qsX7_sampleAt := pq_gn hs (pq_m29 _ (List.mem_of_getElem? (i := 9) rfl))
theorem gvX7_sampleAt {Ts : List Cond} {own : String} {idx : Nat} (hs : ∀ w ∈ wsL_law, w ∈ Ts) (h1 : Cond.methodLink own idx yX7_sampleAt ∈ wsL_law) : GoodIn Ts (wsV own idx RX7 yX7_sampleAt qsX7_sampleAt) := pq_gv hs h1 (pq_m29 _ (List.mem_of_getElem? (i := 7) rfl)) (pq_m29 _ (List.mem_of_getElem? (i := 8) rfl)) (pq_m1 _ (List.mem_of_getElem? (i := 5) rfl)) (pq_m29 _ (List.mem_of_getElem? (i := 9) rfl))
def qsX7_bit : List Cond := .code yX7_bit cX7_bit 4 none :: wsL_law
theorem gnX7_bit {Ts : List Cond} (hs : ∀ w ∈ wsL_law, w ∈ Ts) : GoodIn Ts qsX7_bit := pq_gn hs (pq_m29 _ (List.mem_of_getElem? (i := 13) rfl))
theorem gvX7_bit {Ts : List Cond} {own : String} {idx : Nat} (hs : ∀ w ∈ wsL_law, w ∈ Ts) (h1 : Cond.methodLink own idx yX7_bit ∈ wsL_law) : GoodIn Ts (wsV own idx RX7 yX7_bit qsX7_bit) := pq_gv hs h1 (pq_m29 _ (List.mem_of_getElem? (i := 11) rfl)) (pq_m29 _ (List.mem_of_getElem? (i := 12) rfl)) (pq_m1 _ (List.mem_of_getElem? (i := 5) rfl)) (pq_m29 _ (List.mem_of_getElem? (i := 13) rfl))
def qsX7_pack : List Cond := .code yX7_pack cX7_pack 9 (some .int) :: wsL_law
theorem gnX7_pack {Ts : List Cond} (hs : ∀ w ∈ wsL_law, w ∈ Ts) : GoodIn Ts qsX7_pack := pq_gn hs (pq_m29 _ (List.mem_of_getElem? (i := 5) rfl))
theorem gvX7_pack {Ts : List Cond} {own : String} {idx : Nat} (hs : ∀ w ∈ wsL_law, w ∈ Ts) (h1 : Cond.methodLink own idx yX7_pack ∈ wsL_law) : GoodIn Ts (wsV own idx RX7 yX7_pack qsX7_pack) := pq_gv hs h1 (pq_m29 _ (List.mem_of_getElem? (i := 3) rfl)) (pq_m29 _ (List.mem_of_getElem? (i := 4) rfl)) (pq_m1 _ (List.mem_of_getElem? (i := 5) rfl)) (pq_m29 _ (List.mem_of_getElem? (i := 5) rfl))
def qsX7_sample : List Cond := .code yX7_sample cX7_sample 2 none :: wsL_law
theorem gnX7_sample {Ts : List Cond} (hs : ∀ w ∈ wsL_law, w ∈ Ts) : GoodIn Ts qsX7_sample := pq_gn hs (pq_m30 _ (List.mem_of_getElem? (i := 10) rfl))
theorem gvX7_sample {Ts : List Cond} {own : String} {idx : Nat} (hs : ∀ w ∈ wsL_law, w ∈ Ts) (h1 : Cond.methodLink own idx yX7_sample ∈ wsL_law) : GoodIn Ts (wsV own idx RX7 yX7_sample qsX7_sample) := pq_gv hs h1 (pq_m30 _ (List.mem_of_getElem? (i := 8) rfl)) (pq_m30 _ (List.mem_of_getElem? (i := 9) rfl)) (pq_m1 _ (List.mem_of_getElem? (i := 5) rfl)) (pq_m30 _ (List.mem_of_getElem? (i := 10) rfl))
def qsX7_unpack : List Cond := .code yX7_unpack cX7_unpack 10 (some .int) :: wsL_law
theorem gnX7_unpack {Ts : List Cond} (hs : ∀ w ∈ wsL_law, w ∈ Ts) : GoodIn Ts qsX7_unpack := pq_gn hs (pq_m30 _ (List.mem_of_getElem? (i := 6) rfl))
theorem gvX7_unpack {Ts : List Cond} {own : String} {idx : Nat} (hs : ∀ w ∈ wsL_law, w ∈ Ts) (h1 : Cond.methodLink own idx yX7_unpack ∈ wsL_law) : GoodIn Ts (wsV own idx RX7 yX7_unpack qsX7_unpack) := pq_gv hs h1 (pq_m30 _ (List.mem_of_getElem? (i := 4) rfl)) (pq_m30 _ (List.mem_of_getElem? (i := 5) rfl)) (pq_m1 _ (List.mem_of_getElem? (i := 5) rfl)) (pq_m30 _ (List.mem_of_getElem? (i := 6) rfl))
def qsX7_pass : List Cond := .code yX7_pass cX7_pass 5 (some .int) :: wsL_law
theorem gnX7_pass {Ts : List Cond} (hs : ∀ w ∈ wsL_law, w ∈ Ts) : GoodIn Ts qsX7_pass := pq_gn hs (pq_m30 _ (List.mem_of_getElem? (i := 18) rfl))
theorem gvX7_pass {Ts : List Cond} {own : String} {idx : Nat} (hs : ∀ w ∈ wsL_law, w ∈ Ts) (h1 : Cond.methodLink own idx yX7_pass ∈ wsL_law) : GoodIn Ts (wsV own idx RX7 yX7_pass qsX7_pass) := pq_gv hs h1 (pq_m30 _ (List.mem_of_getElem? (i := 16) rfl)) (pq_m30 _ (List.mem_of_getElem? (i := 17) rfl)) (pq_m1 _ (List.mem_of_getElem? (i := 5) rfl)) (pq_m30 _ (List.mem_of_getElem? (i := 18) rfl))
def qsX7_finds : List Cond := .code yX7_finds cX7_finds 3 none :: wsL_law
theorem gnX7_finds {Ts : List Cond} (hs : ∀ w ∈ wsL_law, w ∈ Ts) : GoodIn Ts qsX7_finds := pq_gn hs (pq_m31 _ (List.mem_of_getElem? (i := 17) rfl))
theorem gvX7_finds {Ts : List Cond} {own : String} {idx : Nat} (hs : ∀ w ∈ wsL_law, w ∈ Ts) (h1 : Cond.methodLink own idx yX7_finds ∈ wsL_law) : GoodIn Ts (wsV own idx RX7 yX7_finds qsX7_finds) := pq_gv hs h1 (pq_m31 _ (List.mem_of_getElem? (i := 15) rfl)) (pq_m31 _ (List.mem_of_getElem? (i := 16) rfl)) (pq_m1 _ (List.mem_of_getElem? (i := 5) rfl)) (pq_m31 _ (List.mem_of_getElem? (i := 17) rfl))
def qsX7_law : List Cond := .code yX7_law cX7_law 4 (some .int) :: wsL_law
theorem gnX7_law {Ts : List Cond} (hs : ∀ w ∈ wsL_law, w ∈ Ts) : GoodIn Ts qsX7_law := pq_gn hs (pq_m31 _ (List.mem_of_getElem? (i := 13) rfl))
theorem gvX7_law {Ts : List Cond} {own : String} {idx : Nat} (hs : ∀ w ∈ wsL_law, w ∈ Ts) (h1 : Cond.methodLink own idx yX7_law ∈ wsL_law) : GoodIn Ts (wsV own idx RX7 yX7_law qsX7_law) := pq_gv hs h1 (pq_m31 _ (List.mem_of_getElem? (i := 11) rfl)) (pq_m31 _ (List.mem_of_getElem? (i := 12) rfl)) (pq_m1 _ (List.mem_of_getElem? (i := 5) rfl)) (pq_m31 _ (List.mem_of_getElem? (i := 13) rfl))
