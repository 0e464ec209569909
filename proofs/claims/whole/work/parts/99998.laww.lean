/-! the law's calls: the tables' words (by program) -/
set_option maxRecDepth 20000 in
theorem ml_X11_feed : Cond.methodLink R_law 13 m_X11_feed.1 ∈ tb := tb2 139 rfl rfl
set_option maxRecDepth 20000 in
theorem yi_X11_feed : Cond.initialized m_X11_feed.1.cls ∈ tb := tb1 1 rfl rfl
set_option maxRecDepth 20000 in
theorem yc_X11_feed : Cond.code m_X11_feed.1 m_X11_feed.2.1 m_X11_feed.2.2.1 m_X11_feed.2.2.2 ∈ tb := tb2 142 rfl rfl
theorem yn_X11_feed : m_X11_feed.1.cls ≠ "java/lang/invoke/MethodHandle" ∧ m_X11_feed.1.cls ≠ "java/lang/invoke/VarHandle" ∧ (parseMethodDescriptor m_X11_feed.1.desc).map (fun d => d.parameters.length) = some 5 := ⟨by decide +kernel, by decide +kernel, by decide +kernel⟩
set_option maxRecDepth 20000 in
theorem ym_X11_feed : Cond.instanceMethod m_X11_feed.1 ∈ tb := tb2 140 rfl rfl
set_option maxRecDepth 20000 in
theorem ys_X11_feed : Cond.selects m_X11_feed.1.cls m_X11_feed.1 m_X11_feed.1 ∈ tb := tb2 141 rfl rfl
theorem vl_X11_feed : CV R_law 13 m_X11_feed 5 11 := ⟨⟨Or.inl ml_X11_feed, yi_X11_feed, yc_X11_feed, yn_X11_feed⟩, ym_X11_feed, ys_X11_feed, ⟨_, _, _, _, cf11, rfl⟩, by decide⟩
set_option maxRecDepth 20000 in
theorem ml_X12_feed : Cond.methodLink R_law 17 m_X12_feed.1 ∈ tb := tb6 228 rfl rfl
set_option maxRecDepth 20000 in
theorem yi_X12_feed : Cond.initialized m_X12_feed.1.cls ∈ tb := tb1 14 rfl rfl
set_option maxRecDepth 20000 in
theorem yc_X12_feed : Cond.code m_X12_feed.1 m_X12_feed.2.1 m_X12_feed.2.2.1 m_X12_feed.2.2.2 ∈ tb := tb6 231 rfl rfl
theorem yn_X12_feed : m_X12_feed.1.cls ≠ "java/lang/invoke/MethodHandle" ∧ m_X12_feed.1.cls ≠ "java/lang/invoke/VarHandle" ∧ (parseMethodDescriptor m_X12_feed.1.desc).map (fun d => d.parameters.length) = some 5 := ⟨by decide +kernel, by decide +kernel, by decide +kernel⟩
set_option maxRecDepth 20000 in
theorem ym_X12_feed : Cond.instanceMethod m_X12_feed.1 ∈ tb := tb6 229 rfl rfl
set_option maxRecDepth 20000 in
theorem ys_X12_feed : Cond.selects m_X12_feed.1.cls m_X12_feed.1 m_X12_feed.1 ∈ tb := tb6 230 rfl rfl
theorem vl_X12_feed : CV R_law 17 m_X12_feed 5 12 := ⟨⟨Or.inl ml_X12_feed, yi_X12_feed, yc_X12_feed, yn_X12_feed⟩, ym_X12_feed, ys_X12_feed, ⟨_, _, _, _, cf12, rfl⟩, by decide⟩
set_option maxRecDepth 20000 in
theorem ml_X11_cut : Cond.methodLink R_law 18 m_X11_cut.1 ∈ tb := tb2 151 rfl rfl
set_option maxRecDepth 20000 in
theorem yi_X11_cut : Cond.initialized m_X11_cut.1.cls ∈ tb := tb1 1 rfl rfl
set_option maxRecDepth 20000 in
theorem yc_X11_cut : Cond.code m_X11_cut.1 m_X11_cut.2.1 m_X11_cut.2.2.1 m_X11_cut.2.2.2 ∈ tb := tb2 154 rfl rfl
theorem yn_X11_cut : m_X11_cut.1.cls ≠ "java/lang/invoke/MethodHandle" ∧ m_X11_cut.1.cls ≠ "java/lang/invoke/VarHandle" ∧ (parseMethodDescriptor m_X11_cut.1.desc).map (fun d => d.parameters.length) = some 1 := ⟨by decide +kernel, by decide +kernel, by decide +kernel⟩
set_option maxRecDepth 20000 in
theorem ym_X11_cut : Cond.instanceMethod m_X11_cut.1 ∈ tb := tb2 152 rfl rfl
set_option maxRecDepth 20000 in
theorem ys_X11_cut : Cond.selects m_X11_cut.1.cls m_X11_cut.1 m_X11_cut.1 ∈ tb := tb2 153 rfl rfl
theorem vl_X11_cut : CV R_law 18 m_X11_cut 1 11 := ⟨⟨Or.inl ml_X11_cut, yi_X11_cut, yc_X11_cut, yn_X11_cut⟩, ym_X11_cut, ys_X11_cut, ⟨_, _, _, _, cf11, rfl⟩, by decide⟩
set_option maxRecDepth 20000 in
theorem ml_X12_cut : Cond.methodLink R_law 22 m_X12_cut.1 ∈ tb := tb6 232 rfl rfl
set_option maxRecDepth 20000 in
theorem yi_X12_cut : Cond.initialized m_X12_cut.1.cls ∈ tb := tb1 14 rfl rfl
set_option maxRecDepth 20000 in
theorem yc_X12_cut : Cond.code m_X12_cut.1 m_X12_cut.2.1 m_X12_cut.2.2.1 m_X12_cut.2.2.2 ∈ tb := tb6 235 rfl rfl
theorem yn_X12_cut : m_X12_cut.1.cls ≠ "java/lang/invoke/MethodHandle" ∧ m_X12_cut.1.cls ≠ "java/lang/invoke/VarHandle" ∧ (parseMethodDescriptor m_X12_cut.1.desc).map (fun d => d.parameters.length) = some 1 := ⟨by decide +kernel, by decide +kernel, by decide +kernel⟩
set_option maxRecDepth 20000 in
theorem ym_X12_cut : Cond.instanceMethod m_X12_cut.1 ∈ tb := tb6 233 rfl rfl
set_option maxRecDepth 20000 in
theorem ys_X12_cut : Cond.selects m_X12_cut.1.cls m_X12_cut.1 m_X12_cut.1 ∈ tb := tb6 234 rfl rfl
theorem vl_X12_cut : CV R_law 22 m_X12_cut 1 12 := ⟨⟨Or.inl ml_X12_cut, yi_X12_cut, yc_X12_cut, yn_X12_cut⟩, ym_X12_cut, ys_X12_cut, ⟨_, _, _, _, cf12, rfl⟩, by decide⟩
set_option maxRecDepth 20000 in
theorem ml_X11_read : Cond.methodLink R_law 23 m_X11_read.1 ∈ tb := tb2 155 rfl rfl
set_option maxRecDepth 20000 in
theorem yi_X11_read : Cond.initialized m_X11_read.1.cls ∈ tb := tb1 1 rfl rfl
set_option maxRecDepth 20000 in
theorem yc_X11_read : Cond.code m_X11_read.1 m_X11_read.2.1 m_X11_read.2.2.1 m_X11_read.2.2.2 ∈ tb := tb2 158 rfl rfl
theorem yn_X11_read : m_X11_read.1.cls ≠ "java/lang/invoke/MethodHandle" ∧ m_X11_read.1.cls ≠ "java/lang/invoke/VarHandle" ∧ (parseMethodDescriptor m_X11_read.1.desc).map (fun d => d.parameters.length) = some 0 := ⟨by decide +kernel, by decide +kernel, by decide +kernel⟩
set_option maxRecDepth 20000 in
theorem ym_X11_read : Cond.instanceMethod m_X11_read.1 ∈ tb := tb2 156 rfl rfl
set_option maxRecDepth 20000 in
theorem ys_X11_read : Cond.selects m_X11_read.1.cls m_X11_read.1 m_X11_read.1 ∈ tb := tb2 157 rfl rfl
theorem vl_X11_read : CV R_law 23 m_X11_read 0 11 := ⟨⟨Or.inl ml_X11_read, yi_X11_read, yc_X11_read, yn_X11_read⟩, ym_X11_read, ys_X11_read, ⟨_, _, _, _, cf11, rfl⟩, by decide⟩
set_option maxRecDepth 20000 in
theorem ml_X12_read : Cond.methodLink R_law 27 m_X12_read.1 ∈ tb := tb6 239 rfl rfl
set_option maxRecDepth 20000 in
theorem yi_X12_read : Cond.initialized m_X12_read.1.cls ∈ tb := tb1 14 rfl rfl
set_option maxRecDepth 20000 in
theorem yc_X12_read : Cond.code m_X12_read.1 m_X12_read.2.1 m_X12_read.2.2.1 m_X12_read.2.2.2 ∈ tb := tb7 2 rfl rfl
theorem yn_X12_read : m_X12_read.1.cls ≠ "java/lang/invoke/MethodHandle" ∧ m_X12_read.1.cls ≠ "java/lang/invoke/VarHandle" ∧ (parseMethodDescriptor m_X12_read.1.desc).map (fun d => d.parameters.length) = some 0 := ⟨by decide +kernel, by decide +kernel, by decide +kernel⟩
set_option maxRecDepth 20000 in
theorem ym_X12_read : Cond.instanceMethod m_X12_read.1 ∈ tb := tb7 0 rfl rfl
set_option maxRecDepth 20000 in
theorem ys_X12_read : Cond.selects m_X12_read.1.cls m_X12_read.1 m_X12_read.1 ∈ tb := tb7 1 rfl rfl
theorem vl_X12_read : CV R_law 27 m_X12_read 0 12 := ⟨⟨Or.inl ml_X12_read, yi_X12_read, yc_X12_read, yn_X12_read⟩, ym_X12_read, ys_X12_read, ⟨_, _, _, _, cf12, rfl⟩, by decide⟩
set_option maxRecDepth 20000 in
theorem ml_X11_place : Cond.methodLink R_law 28 m_X11_place.1 ∈ tb := tb4 101 rfl rfl
set_option maxRecDepth 20000 in
theorem yi_X11_place : Cond.initialized m_X11_place.1.cls ∈ tb := tb1 1 rfl rfl
set_option maxRecDepth 20000 in
theorem yc_X11_place : Cond.code m_X11_place.1 m_X11_place.2.1 m_X11_place.2.2.1 m_X11_place.2.2.2 ∈ tb := tb4 104 rfl rfl
theorem yn_X11_place : m_X11_place.1.cls ≠ "java/lang/invoke/MethodHandle" ∧ m_X11_place.1.cls ≠ "java/lang/invoke/VarHandle" ∧ (parseMethodDescriptor m_X11_place.1.desc).map (fun d => d.parameters.length) = some 0 := ⟨by decide +kernel, by decide +kernel, by decide +kernel⟩
set_option maxRecDepth 20000 in
theorem ym_X11_place : Cond.instanceMethod m_X11_place.1 ∈ tb := tb4 102 rfl rfl
set_option maxRecDepth 20000 in
theorem ys_X11_place : Cond.selects m_X11_place.1.cls m_X11_place.1 m_X11_place.1 ∈ tb := tb4 103 rfl rfl
theorem vl_X11_place : CV R_law 28 m_X11_place 0 11 := ⟨⟨Or.inl ml_X11_place, yi_X11_place, yc_X11_place, yn_X11_place⟩, ym_X11_place, ys_X11_place, ⟨_, _, _, _, cf11, rfl⟩, by decide⟩
set_option maxRecDepth 20000 in
theorem ml_X12_place : Cond.methodLink R_law 31 m_X12_place.1 ∈ tb := tb7 126 rfl rfl
set_option maxRecDepth 20000 in
theorem yi_X12_place : Cond.initialized m_X12_place.1.cls ∈ tb := tb1 14 rfl rfl
set_option maxRecDepth 20000 in
theorem yc_X12_place : Cond.code m_X12_place.1 m_X12_place.2.1 m_X12_place.2.2.1 m_X12_place.2.2.2 ∈ tb := tb7 129 rfl rfl
theorem yn_X12_place : m_X12_place.1.cls ≠ "java/lang/invoke/MethodHandle" ∧ m_X12_place.1.cls ≠ "java/lang/invoke/VarHandle" ∧ (parseMethodDescriptor m_X12_place.1.desc).map (fun d => d.parameters.length) = some 0 := ⟨by decide +kernel, by decide +kernel, by decide +kernel⟩
set_option maxRecDepth 20000 in
theorem ym_X12_place : Cond.instanceMethod m_X12_place.1 ∈ tb := tb7 127 rfl rfl
set_option maxRecDepth 20000 in
theorem ys_X12_place : Cond.selects m_X12_place.1.cls m_X12_place.1 m_X12_place.1 ∈ tb := tb7 128 rfl rfl
theorem vl_X12_place : CV R_law 31 m_X12_place 0 12 := ⟨⟨Or.inl ml_X12_place, yi_X12_place, yc_X12_place, yn_X12_place⟩, ym_X12_place, ys_X12_place, ⟨_, _, _, _, cf12, rfl⟩, by decide⟩
set_option maxRecDepth 20000 in
theorem ml_X11_count : Cond.methodLink R_law 32 m_X11_count.1 ∈ tb := tb4 105 rfl rfl
set_option maxRecDepth 20000 in
theorem yi_X11_count : Cond.initialized m_X11_count.1.cls ∈ tb := tb1 1 rfl rfl
set_option maxRecDepth 20000 in
theorem yc_X11_count : Cond.code m_X11_count.1 m_X11_count.2.1 m_X11_count.2.2.1 m_X11_count.2.2.2 ∈ tb := tb4 108 rfl rfl
theorem yn_X11_count : m_X11_count.1.cls ≠ "java/lang/invoke/MethodHandle" ∧ m_X11_count.1.cls ≠ "java/lang/invoke/VarHandle" ∧ (parseMethodDescriptor m_X11_count.1.desc).map (fun d => d.parameters.length) = some 1 := ⟨by decide +kernel, by decide +kernel, by decide +kernel⟩
set_option maxRecDepth 20000 in
theorem ym_X11_count : Cond.instanceMethod m_X11_count.1 ∈ tb := tb4 106 rfl rfl
set_option maxRecDepth 20000 in
theorem ys_X11_count : Cond.selects m_X11_count.1.cls m_X11_count.1 m_X11_count.1 ∈ tb := tb4 107 rfl rfl
theorem vl_X11_count : CV R_law 32 m_X11_count 1 11 := ⟨⟨Or.inl ml_X11_count, yi_X11_count, yc_X11_count, yn_X11_count⟩, ym_X11_count, ys_X11_count, ⟨_, _, _, _, cf11, rfl⟩, by decide⟩
set_option maxRecDepth 20000 in
theorem ml_X12_count : Cond.methodLink R_law 35 m_X12_count.1 ∈ tb := tb7 130 rfl rfl
set_option maxRecDepth 20000 in
theorem yi_X12_count : Cond.initialized m_X12_count.1.cls ∈ tb := tb1 14 rfl rfl
set_option maxRecDepth 20000 in
theorem yc_X12_count : Cond.code m_X12_count.1 m_X12_count.2.1 m_X12_count.2.2.1 m_X12_count.2.2.2 ∈ tb := tb7 133 rfl rfl
theorem yn_X12_count : m_X12_count.1.cls ≠ "java/lang/invoke/MethodHandle" ∧ m_X12_count.1.cls ≠ "java/lang/invoke/VarHandle" ∧ (parseMethodDescriptor m_X12_count.1.desc).map (fun d => d.parameters.length) = some 1 := ⟨by decide +kernel, by decide +kernel, by decide +kernel⟩
set_option maxRecDepth 20000 in
theorem ym_X12_count : Cond.instanceMethod m_X12_count.1 ∈ tb := tb7 131 rfl rfl
set_option maxRecDepth 20000 in
theorem ys_X12_count : Cond.selects m_X12_count.1.cls m_X12_count.1 m_X12_count.1 ∈ tb := tb7 132 rfl rfl
theorem vl_X12_count : CV R_law 35 m_X12_count 1 12 := ⟨⟨Or.inl ml_X12_count, yi_X12_count, yc_X12_count, yn_X12_count⟩, ym_X12_count, ys_X12_count, ⟨_, _, _, _, cf12, rfl⟩, by decide⟩
set_option maxRecDepth 20000 in
theorem ml_X11_kind : Cond.methodLink R_law 36 m_X11_kind.1 ∈ tb := tb4 146 rfl rfl
set_option maxRecDepth 20000 in
theorem yi_X11_kind : Cond.initialized m_X11_kind.1.cls ∈ tb := tb1 1 rfl rfl
set_option maxRecDepth 20000 in
theorem yc_X11_kind : Cond.code m_X11_kind.1 m_X11_kind.2.1 m_X11_kind.2.2.1 m_X11_kind.2.2.2 ∈ tb := tb4 149 rfl rfl
theorem yn_X11_kind : m_X11_kind.1.cls ≠ "java/lang/invoke/MethodHandle" ∧ m_X11_kind.1.cls ≠ "java/lang/invoke/VarHandle" ∧ (parseMethodDescriptor m_X11_kind.1.desc).map (fun d => d.parameters.length) = some 2 := ⟨by decide +kernel, by decide +kernel, by decide +kernel⟩
set_option maxRecDepth 20000 in
theorem ym_X11_kind : Cond.instanceMethod m_X11_kind.1 ∈ tb := tb4 147 rfl rfl
set_option maxRecDepth 20000 in
theorem ys_X11_kind : Cond.selects m_X11_kind.1.cls m_X11_kind.1 m_X11_kind.1 ∈ tb := tb4 148 rfl rfl
theorem vl_X11_kind : CV R_law 36 m_X11_kind 2 11 := ⟨⟨Or.inl ml_X11_kind, yi_X11_kind, yc_X11_kind, yn_X11_kind⟩, ym_X11_kind, ys_X11_kind, ⟨_, _, _, _, cf11, rfl⟩, by decide⟩
set_option maxRecDepth 20000 in
theorem ml_X12_kind : Cond.methodLink R_law 40 m_X12_kind.1 ∈ tb := tb7 162 rfl rfl
set_option maxRecDepth 20000 in
theorem yi_X12_kind : Cond.initialized m_X12_kind.1.cls ∈ tb := tb1 14 rfl rfl
set_option maxRecDepth 20000 in
theorem yc_X12_kind : Cond.code m_X12_kind.1 m_X12_kind.2.1 m_X12_kind.2.2.1 m_X12_kind.2.2.2 ∈ tb := tb7 165 rfl rfl
theorem yn_X12_kind : m_X12_kind.1.cls ≠ "java/lang/invoke/MethodHandle" ∧ m_X12_kind.1.cls ≠ "java/lang/invoke/VarHandle" ∧ (parseMethodDescriptor m_X12_kind.1.desc).map (fun d => d.parameters.length) = some 2 := ⟨by decide +kernel, by decide +kernel, by decide +kernel⟩
set_option maxRecDepth 20000 in
theorem ym_X12_kind : Cond.instanceMethod m_X12_kind.1 ∈ tb := tb7 163 rfl rfl
set_option maxRecDepth 20000 in
theorem ys_X12_kind : Cond.selects m_X12_kind.1.cls m_X12_kind.1 m_X12_kind.1 ∈ tb := tb7 164 rfl rfl
theorem vl_X12_kind : CV R_law 40 m_X12_kind 2 12 := ⟨⟨Or.inl ml_X12_kind, yi_X12_kind, yc_X12_kind, yn_X12_kind⟩, ym_X12_kind, ys_X12_kind, ⟨_, _, _, _, cf12, rfl⟩, by decide⟩
set_option maxRecDepth 20000 in
theorem ml_X11_rule : Cond.methodLink R_law 41 m_X11_rule.1 ∈ tb := tb4 158 rfl rfl
set_option maxRecDepth 20000 in
theorem yi_X11_rule : Cond.initialized m_X11_rule.1.cls ∈ tb := tb1 1 rfl rfl
set_option maxRecDepth 20000 in
theorem yc_X11_rule : Cond.code m_X11_rule.1 m_X11_rule.2.1 m_X11_rule.2.2.1 m_X11_rule.2.2.2 ∈ tb := tb4 161 rfl rfl
theorem yn_X11_rule : m_X11_rule.1.cls ≠ "java/lang/invoke/MethodHandle" ∧ m_X11_rule.1.cls ≠ "java/lang/invoke/VarHandle" ∧ (parseMethodDescriptor m_X11_rule.1.desc).map (fun d => d.parameters.length) = some 2 := ⟨by decide +kernel, by decide +kernel, by decide +kernel⟩
set_option maxRecDepth 20000 in
theorem ym_X11_rule : Cond.instanceMethod m_X11_rule.1 ∈ tb := tb4 159 rfl rfl
set_option maxRecDepth 20000 in
theorem ys_X11_rule : Cond.selects m_X11_rule.1.cls m_X11_rule.1 m_X11_rule.1 ∈ tb := tb4 160 rfl rfl
theorem vl_X11_rule : CV R_law 41 m_X11_rule 2 11 := ⟨⟨Or.inl ml_X11_rule, yi_X11_rule, yc_X11_rule, yn_X11_rule⟩, ym_X11_rule, ys_X11_rule, ⟨_, _, _, _, cf11, rfl⟩, by decide⟩
set_option maxRecDepth 20000 in
theorem ml_X12_rule : Cond.methodLink R_law 44 m_X12_rule.1 ∈ tb := tb7 167 rfl rfl
set_option maxRecDepth 20000 in
theorem yi_X12_rule : Cond.initialized m_X12_rule.1.cls ∈ tb := tb1 14 rfl rfl
set_option maxRecDepth 20000 in
theorem yc_X12_rule : Cond.code m_X12_rule.1 m_X12_rule.2.1 m_X12_rule.2.2.1 m_X12_rule.2.2.2 ∈ tb := tb7 170 rfl rfl
theorem yn_X12_rule : m_X12_rule.1.cls ≠ "java/lang/invoke/MethodHandle" ∧ m_X12_rule.1.cls ≠ "java/lang/invoke/VarHandle" ∧ (parseMethodDescriptor m_X12_rule.1.desc).map (fun d => d.parameters.length) = some 2 := ⟨by decide +kernel, by decide +kernel, by decide +kernel⟩
set_option maxRecDepth 20000 in
theorem ym_X12_rule : Cond.instanceMethod m_X12_rule.1 ∈ tb := tb7 168 rfl rfl
set_option maxRecDepth 20000 in
theorem ys_X12_rule : Cond.selects m_X12_rule.1.cls m_X12_rule.1 m_X12_rule.1 ∈ tb := tb7 169 rfl rfl
theorem vl_X12_rule : CV R_law 44 m_X12_rule 2 12 := ⟨⟨Or.inl ml_X12_rule, yi_X12_rule, yc_X12_rule, yn_X12_rule⟩, ym_X12_rule, ys_X12_rule, ⟨_, _, _, _, cf12, rfl⟩, by decide⟩
set_option maxRecDepth 20000 in
theorem ml_X11_agent : Cond.methodLink R_law 45 m_X11_agent.1 ∈ tb := tb4 167 rfl rfl
set_option maxRecDepth 20000 in
theorem yi_X11_agent : Cond.initialized m_X11_agent.1.cls ∈ tb := tb1 1 rfl rfl
set_option maxRecDepth 20000 in
theorem yc_X11_agent : Cond.code m_X11_agent.1 m_X11_agent.2.1 m_X11_agent.2.2.1 m_X11_agent.2.2.2 ∈ tb := tb4 170 rfl rfl
theorem yn_X11_agent : m_X11_agent.1.cls ≠ "java/lang/invoke/MethodHandle" ∧ m_X11_agent.1.cls ≠ "java/lang/invoke/VarHandle" ∧ (parseMethodDescriptor m_X11_agent.1.desc).map (fun d => d.parameters.length) = some 1 := ⟨by decide +kernel, by decide +kernel, by decide +kernel⟩
set_option maxRecDepth 20000 in
theorem ym_X11_agent : Cond.instanceMethod m_X11_agent.1 ∈ tb := tb4 168 rfl rfl
set_option maxRecDepth 20000 in
theorem ys_X11_agent : Cond.selects m_X11_agent.1.cls m_X11_agent.1 m_X11_agent.1 ∈ tb := tb4 169 rfl rfl
theorem vl_X11_agent : CV R_law 45 m_X11_agent 1 11 := ⟨⟨Or.inl ml_X11_agent, yi_X11_agent, yc_X11_agent, yn_X11_agent⟩, ym_X11_agent, ys_X11_agent, ⟨_, _, _, _, cf11, rfl⟩, by decide⟩
set_option maxRecDepth 20000 in
theorem ml_X12_agent : Cond.methodLink R_law 48 m_X12_agent.1 ∈ tb := tb7 171 rfl rfl
set_option maxRecDepth 20000 in
theorem yi_X12_agent : Cond.initialized m_X12_agent.1.cls ∈ tb := tb1 14 rfl rfl
set_option maxRecDepth 20000 in
theorem yc_X12_agent : Cond.code m_X12_agent.1 m_X12_agent.2.1 m_X12_agent.2.2.1 m_X12_agent.2.2.2 ∈ tb := tb7 174 rfl rfl
theorem yn_X12_agent : m_X12_agent.1.cls ≠ "java/lang/invoke/MethodHandle" ∧ m_X12_agent.1.cls ≠ "java/lang/invoke/VarHandle" ∧ (parseMethodDescriptor m_X12_agent.1.desc).map (fun d => d.parameters.length) = some 1 := ⟨by decide +kernel, by decide +kernel, by decide +kernel⟩
set_option maxRecDepth 20000 in
theorem ym_X12_agent : Cond.instanceMethod m_X12_agent.1 ∈ tb := tb7 172 rfl rfl
set_option maxRecDepth 20000 in
theorem ys_X12_agent : Cond.selects m_X12_agent.1.cls m_X12_agent.1 m_X12_agent.1 ∈ tb := tb7 173 rfl rfl
theorem vl_X12_agent : CV R_law 48 m_X12_agent 1 12 := ⟨⟨Or.inl ml_X12_agent, yi_X12_agent, yc_X12_agent, yn_X12_agent⟩, ym_X12_agent, ys_X12_agent, ⟨_, _, _, _, cf12, rfl⟩, by decide⟩
set_option maxRecDepth 20000 in
theorem ml_X11_wired : Cond.methodLink R_law 49 m_X11_wired.1 ∈ tb := tb4 173 rfl rfl
set_option maxRecDepth 20000 in
theorem yi_X11_wired : Cond.initialized m_X11_wired.1.cls ∈ tb := tb1 1 rfl rfl
set_option maxRecDepth 20000 in
theorem yc_X11_wired : Cond.code m_X11_wired.1 m_X11_wired.2.1 m_X11_wired.2.2.1 m_X11_wired.2.2.2 ∈ tb := tb4 176 rfl rfl
theorem yn_X11_wired : m_X11_wired.1.cls ≠ "java/lang/invoke/MethodHandle" ∧ m_X11_wired.1.cls ≠ "java/lang/invoke/VarHandle" ∧ (parseMethodDescriptor m_X11_wired.1.desc).map (fun d => d.parameters.length) = some 2 := ⟨by decide +kernel, by decide +kernel, by decide +kernel⟩
set_option maxRecDepth 20000 in
theorem ym_X11_wired : Cond.instanceMethod m_X11_wired.1 ∈ tb := tb4 174 rfl rfl
set_option maxRecDepth 20000 in
theorem ys_X11_wired : Cond.selects m_X11_wired.1.cls m_X11_wired.1 m_X11_wired.1 ∈ tb := tb4 175 rfl rfl
theorem vl_X11_wired : CV R_law 49 m_X11_wired 2 11 := ⟨⟨Or.inl ml_X11_wired, yi_X11_wired, yc_X11_wired, yn_X11_wired⟩, ym_X11_wired, ys_X11_wired, ⟨_, _, _, _, cf11, rfl⟩, by decide⟩
set_option maxRecDepth 20000 in
theorem ml_X12_wired : Cond.methodLink R_law 52 m_X12_wired.1 ∈ tb := tb7 180 rfl rfl
set_option maxRecDepth 20000 in
theorem yi_X12_wired : Cond.initialized m_X12_wired.1.cls ∈ tb := tb1 14 rfl rfl
set_option maxRecDepth 20000 in
theorem yc_X12_wired : Cond.code m_X12_wired.1 m_X12_wired.2.1 m_X12_wired.2.2.1 m_X12_wired.2.2.2 ∈ tb := tb7 183 rfl rfl
theorem yn_X12_wired : m_X12_wired.1.cls ≠ "java/lang/invoke/MethodHandle" ∧ m_X12_wired.1.cls ≠ "java/lang/invoke/VarHandle" ∧ (parseMethodDescriptor m_X12_wired.1.desc).map (fun d => d.parameters.length) = some 2 := ⟨by decide +kernel, by decide +kernel, by decide +kernel⟩
set_option maxRecDepth 20000 in
theorem ym_X12_wired : Cond.instanceMethod m_X12_wired.1 ∈ tb := tb7 181 rfl rfl
set_option maxRecDepth 20000 in
theorem ys_X12_wired : Cond.selects m_X12_wired.1.cls m_X12_wired.1 m_X12_wired.1 ∈ tb := tb7 182 rfl rfl
theorem vl_X12_wired : CV R_law 52 m_X12_wired 2 12 := ⟨⟨Or.inl ml_X12_wired, yi_X12_wired, yc_X12_wired, yn_X12_wired⟩, ym_X12_wired, ys_X12_wired, ⟨_, _, _, _, cf12, rfl⟩, by decide⟩
set_option maxRecDepth 20000 in
theorem ml_X11_end : Cond.methodLink R_law 53 m_X11_end.1 ∈ tb := tb4 182 rfl rfl
set_option maxRecDepth 20000 in
theorem yi_X11_end : Cond.initialized m_X11_end.1.cls ∈ tb := tb1 1 rfl rfl
set_option maxRecDepth 20000 in
theorem yc_X11_end : Cond.code m_X11_end.1 m_X11_end.2.1 m_X11_end.2.2.1 m_X11_end.2.2.2 ∈ tb := tb4 185 rfl rfl
theorem yn_X11_end : m_X11_end.1.cls ≠ "java/lang/invoke/MethodHandle" ∧ m_X11_end.1.cls ≠ "java/lang/invoke/VarHandle" ∧ (parseMethodDescriptor m_X11_end.1.desc).map (fun d => d.parameters.length) = some 1 := ⟨by decide +kernel, by decide +kernel, by decide +kernel⟩
set_option maxRecDepth 20000 in
theorem ym_X11_end : Cond.instanceMethod m_X11_end.1 ∈ tb := tb4 183 rfl rfl
set_option maxRecDepth 20000 in
theorem ys_X11_end : Cond.selects m_X11_end.1.cls m_X11_end.1 m_X11_end.1 ∈ tb := tb4 184 rfl rfl
theorem vl_X11_end : CV R_law 53 m_X11_end 1 11 := ⟨⟨Or.inl ml_X11_end, yi_X11_end, yc_X11_end, yn_X11_end⟩, ym_X11_end, ys_X11_end, ⟨_, _, _, _, cf11, rfl⟩, by decide⟩
set_option maxRecDepth 20000 in
theorem ml_X12_end : Cond.methodLink R_law 56 m_X12_end.1 ∈ tb := tb7 187 rfl rfl
set_option maxRecDepth 20000 in
theorem yi_X12_end : Cond.initialized m_X12_end.1.cls ∈ tb := tb1 14 rfl rfl
set_option maxRecDepth 20000 in
theorem yc_X12_end : Cond.code m_X12_end.1 m_X12_end.2.1 m_X12_end.2.2.1 m_X12_end.2.2.2 ∈ tb := tb7 190 rfl rfl
theorem yn_X12_end : m_X12_end.1.cls ≠ "java/lang/invoke/MethodHandle" ∧ m_X12_end.1.cls ≠ "java/lang/invoke/VarHandle" ∧ (parseMethodDescriptor m_X12_end.1.desc).map (fun d => d.parameters.length) = some 1 := ⟨by decide +kernel, by decide +kernel, by decide +kernel⟩
set_option maxRecDepth 20000 in
theorem ym_X12_end : Cond.instanceMethod m_X12_end.1 ∈ tb := tb7 188 rfl rfl
set_option maxRecDepth 20000 in
theorem ys_X12_end : Cond.selects m_X12_end.1.cls m_X12_end.1 m_X12_end.1 ∈ tb := tb7 189 rfl rfl
theorem vl_X12_end : CV R_law 56 m_X12_end 1 12 := ⟨⟨Or.inl ml_X12_end, yi_X12_end, yc_X12_end, yn_X12_end⟩, ym_X12_end, ys_X12_end, ⟨_, _, _, _, cf12, rfl⟩, by decide⟩
set_option maxRecDepth 20000 in
theorem ml_X11_pair : Cond.methodLink R_law 57 m_X11_pair.1 ∈ tb := tb4 191 rfl rfl
set_option maxRecDepth 20000 in
theorem yi_X11_pair : Cond.initialized m_X11_pair.1.cls ∈ tb := tb1 1 rfl rfl
set_option maxRecDepth 20000 in
theorem yc_X11_pair : Cond.code m_X11_pair.1 m_X11_pair.2.1 m_X11_pair.2.2.1 m_X11_pair.2.2.2 ∈ tb := tb4 194 rfl rfl
theorem yn_X11_pair : m_X11_pair.1.cls ≠ "java/lang/invoke/MethodHandle" ∧ m_X11_pair.1.cls ≠ "java/lang/invoke/VarHandle" ∧ (parseMethodDescriptor m_X11_pair.1.desc).map (fun d => d.parameters.length) = some 1 := ⟨by decide +kernel, by decide +kernel, by decide +kernel⟩
set_option maxRecDepth 20000 in
theorem ym_X11_pair : Cond.instanceMethod m_X11_pair.1 ∈ tb := tb4 192 rfl rfl
set_option maxRecDepth 20000 in
theorem ys_X11_pair : Cond.selects m_X11_pair.1.cls m_X11_pair.1 m_X11_pair.1 ∈ tb := tb4 193 rfl rfl
theorem vl_X11_pair : CV R_law 57 m_X11_pair 1 11 := ⟨⟨Or.inl ml_X11_pair, yi_X11_pair, yc_X11_pair, yn_X11_pair⟩, ym_X11_pair, ys_X11_pair, ⟨_, _, _, _, cf11, rfl⟩, by decide⟩
set_option maxRecDepth 20000 in
theorem ml_X12_pair : Cond.methodLink R_law 60 m_X12_pair.1 ∈ tb := tb7 191 rfl rfl
set_option maxRecDepth 20000 in
theorem yi_X12_pair : Cond.initialized m_X12_pair.1.cls ∈ tb := tb1 14 rfl rfl
set_option maxRecDepth 20000 in
theorem yc_X12_pair : Cond.code m_X12_pair.1 m_X12_pair.2.1 m_X12_pair.2.2.1 m_X12_pair.2.2.2 ∈ tb := tb7 194 rfl rfl
theorem yn_X12_pair : m_X12_pair.1.cls ≠ "java/lang/invoke/MethodHandle" ∧ m_X12_pair.1.cls ≠ "java/lang/invoke/VarHandle" ∧ (parseMethodDescriptor m_X12_pair.1.desc).map (fun d => d.parameters.length) = some 1 := ⟨by decide +kernel, by decide +kernel, by decide +kernel⟩
set_option maxRecDepth 20000 in
theorem ym_X12_pair : Cond.instanceMethod m_X12_pair.1 ∈ tb := tb7 192 rfl rfl
set_option maxRecDepth 20000 in
theorem ys_X12_pair : Cond.selects m_X12_pair.1.cls m_X12_pair.1 m_X12_pair.1 ∈ tb := tb7 193 rfl rfl
theorem vl_X12_pair : CV R_law 60 m_X12_pair 1 12 := ⟨⟨Or.inl ml_X12_pair, yi_X12_pair, yc_X12_pair, yn_X12_pair⟩, ym_X12_pair, ys_X12_pair, ⟨_, _, _, _, cf12, rfl⟩, by decide⟩
set_option maxRecDepth 20000 in
theorem ml_X11_step : Cond.methodLink R_law 61 m_X11_step.1 ∈ tb := tb4 199 rfl rfl
set_option maxRecDepth 20000 in
theorem yi_X11_step : Cond.initialized m_X11_step.1.cls ∈ tb := tb1 1 rfl rfl
set_option maxRecDepth 20000 in
theorem yc_X11_step : Cond.code m_X11_step.1 m_X11_step.2.1 m_X11_step.2.2.1 m_X11_step.2.2.2 ∈ tb := tb4 202 rfl rfl
theorem yn_X11_step : m_X11_step.1.cls ≠ "java/lang/invoke/MethodHandle" ∧ m_X11_step.1.cls ≠ "java/lang/invoke/VarHandle" ∧ (parseMethodDescriptor m_X11_step.1.desc).map (fun d => d.parameters.length) = some 1 := ⟨by decide +kernel, by decide +kernel, by decide +kernel⟩
set_option maxRecDepth 20000 in
theorem ym_X11_step : Cond.instanceMethod m_X11_step.1 ∈ tb := tb4 200 rfl rfl
set_option maxRecDepth 20000 in
theorem ys_X11_step : Cond.selects m_X11_step.1.cls m_X11_step.1 m_X11_step.1 ∈ tb := tb4 201 rfl rfl
theorem vl_X11_step : CV R_law 61 m_X11_step 1 11 := ⟨⟨Or.inl ml_X11_step, yi_X11_step, yc_X11_step, yn_X11_step⟩, ym_X11_step, ys_X11_step, ⟨_, _, _, _, cf11, rfl⟩, by decide⟩
set_option maxRecDepth 20000 in
theorem ml_X12_step : Cond.methodLink R_law 64 m_X12_step.1 ∈ tb := tb7 195 rfl rfl
set_option maxRecDepth 20000 in
theorem yi_X12_step : Cond.initialized m_X12_step.1.cls ∈ tb := tb1 14 rfl rfl
set_option maxRecDepth 20000 in
theorem yc_X12_step : Cond.code m_X12_step.1 m_X12_step.2.1 m_X12_step.2.2.1 m_X12_step.2.2.2 ∈ tb := tb7 198 rfl rfl
theorem yn_X12_step : m_X12_step.1.cls ≠ "java/lang/invoke/MethodHandle" ∧ m_X12_step.1.cls ≠ "java/lang/invoke/VarHandle" ∧ (parseMethodDescriptor m_X12_step.1.desc).map (fun d => d.parameters.length) = some 1 := ⟨by decide +kernel, by decide +kernel, by decide +kernel⟩
set_option maxRecDepth 20000 in
theorem ym_X12_step : Cond.instanceMethod m_X12_step.1 ∈ tb := tb7 196 rfl rfl
set_option maxRecDepth 20000 in
theorem ys_X12_step : Cond.selects m_X12_step.1.cls m_X12_step.1 m_X12_step.1 ∈ tb := tb7 197 rfl rfl
theorem vl_X12_step : CV R_law 64 m_X12_step 1 12 := ⟨⟨Or.inl ml_X12_step, yi_X12_step, yc_X12_step, yn_X12_step⟩, ym_X12_step, ys_X12_step, ⟨_, _, _, _, cf12, rfl⟩, by decide⟩
set_option maxRecDepth 20000 in
theorem ml_X11_run : Cond.methodLink R_law 65 m_X11_run.1 ∈ tb := tb5 65 rfl rfl
set_option maxRecDepth 20000 in
theorem yi_X11_run : Cond.initialized m_X11_run.1.cls ∈ tb := tb1 1 rfl rfl
set_option maxRecDepth 20000 in
theorem yc_X11_run : Cond.code m_X11_run.1 m_X11_run.2.1 m_X11_run.2.2.1 m_X11_run.2.2.2 ∈ tb := tb5 68 rfl rfl
theorem yn_X11_run : m_X11_run.1.cls ≠ "java/lang/invoke/MethodHandle" ∧ m_X11_run.1.cls ≠ "java/lang/invoke/VarHandle" ∧ (parseMethodDescriptor m_X11_run.1.desc).map (fun d => d.parameters.length) = some 2 := ⟨by decide +kernel, by decide +kernel, by decide +kernel⟩
set_option maxRecDepth 20000 in
theorem ym_X11_run : Cond.instanceMethod m_X11_run.1 ∈ tb := tb5 66 rfl rfl
set_option maxRecDepth 20000 in
theorem ys_X11_run : Cond.selects m_X11_run.1.cls m_X11_run.1 m_X11_run.1 ∈ tb := tb5 67 rfl rfl
theorem vl_X11_run : CV R_law 65 m_X11_run 2 11 := ⟨⟨Or.inl ml_X11_run, yi_X11_run, yc_X11_run, yn_X11_run⟩, ym_X11_run, ys_X11_run, ⟨_, _, _, _, cf11, rfl⟩, by decide⟩
set_option maxRecDepth 20000 in
theorem ml_X12_run : Cond.methodLink R_law 68 m_X12_run.1 ∈ tb := tb7 223 rfl rfl
set_option maxRecDepth 20000 in
theorem yi_X12_run : Cond.initialized m_X12_run.1.cls ∈ tb := tb1 14 rfl rfl
set_option maxRecDepth 20000 in
theorem yc_X12_run : Cond.code m_X12_run.1 m_X12_run.2.1 m_X12_run.2.2.1 m_X12_run.2.2.2 ∈ tb := tb7 226 rfl rfl
theorem yn_X12_run : m_X12_run.1.cls ≠ "java/lang/invoke/MethodHandle" ∧ m_X12_run.1.cls ≠ "java/lang/invoke/VarHandle" ∧ (parseMethodDescriptor m_X12_run.1.desc).map (fun d => d.parameters.length) = some 2 := ⟨by decide +kernel, by decide +kernel, by decide +kernel⟩
set_option maxRecDepth 20000 in
theorem ym_X12_run : Cond.instanceMethod m_X12_run.1 ∈ tb := tb7 224 rfl rfl
set_option maxRecDepth 20000 in
theorem ys_X12_run : Cond.selects m_X12_run.1.cls m_X12_run.1 m_X12_run.1 ∈ tb := tb7 225 rfl rfl
theorem vl_X12_run : CV R_law 68 m_X12_run 2 12 := ⟨⟨Or.inl ml_X12_run, yi_X12_run, yc_X12_run, yn_X12_run⟩, ym_X12_run, ys_X12_run, ⟨_, _, _, _, cf12, rfl⟩, by decide⟩
set_option maxRecDepth 20000 in
theorem ml_X11_draw : Cond.methodLink R_law 69 m_X11_draw.1 ∈ tb := tb5 91 rfl rfl
set_option maxRecDepth 20000 in
theorem yi_X11_draw : Cond.initialized m_X11_draw.1.cls ∈ tb := tb1 1 rfl rfl
set_option maxRecDepth 20000 in
theorem yc_X11_draw : Cond.code m_X11_draw.1 m_X11_draw.2.1 m_X11_draw.2.2.1 m_X11_draw.2.2.2 ∈ tb := tb5 94 rfl rfl
theorem yn_X11_draw : m_X11_draw.1.cls ≠ "java/lang/invoke/MethodHandle" ∧ m_X11_draw.1.cls ≠ "java/lang/invoke/VarHandle" ∧ (parseMethodDescriptor m_X11_draw.1.desc).map (fun d => d.parameters.length) = some 1 := ⟨by decide +kernel, by decide +kernel, by decide +kernel⟩
set_option maxRecDepth 20000 in
theorem ym_X11_draw : Cond.instanceMethod m_X11_draw.1 ∈ tb := tb5 92 rfl rfl
set_option maxRecDepth 20000 in
theorem ys_X11_draw : Cond.selects m_X11_draw.1.cls m_X11_draw.1 m_X11_draw.1 ∈ tb := tb5 93 rfl rfl
theorem vl_X11_draw : CV R_law 69 m_X11_draw 1 11 := ⟨⟨Or.inl ml_X11_draw, yi_X11_draw, yc_X11_draw, yn_X11_draw⟩, ym_X11_draw, ys_X11_draw, ⟨_, _, _, _, cf11, rfl⟩, by decide⟩
set_option maxRecDepth 20000 in
theorem ml_X12_draw : Cond.methodLink R_law 72 m_X12_draw.1 ∈ tb := tb8 0 rfl rfl
set_option maxRecDepth 20000 in
theorem yi_X12_draw : Cond.initialized m_X12_draw.1.cls ∈ tb := tb1 14 rfl rfl
set_option maxRecDepth 20000 in
theorem yc_X12_draw : Cond.code m_X12_draw.1 m_X12_draw.2.1 m_X12_draw.2.2.1 m_X12_draw.2.2.2 ∈ tb := tb8 3 rfl rfl
theorem yn_X12_draw : m_X12_draw.1.cls ≠ "java/lang/invoke/MethodHandle" ∧ m_X12_draw.1.cls ≠ "java/lang/invoke/VarHandle" ∧ (parseMethodDescriptor m_X12_draw.1.desc).map (fun d => d.parameters.length) = some 1 := ⟨by decide +kernel, by decide +kernel, by decide +kernel⟩
set_option maxRecDepth 20000 in
theorem ym_X12_draw : Cond.instanceMethod m_X12_draw.1 ∈ tb := tb8 1 rfl rfl
set_option maxRecDepth 20000 in
theorem ys_X12_draw : Cond.selects m_X12_draw.1.cls m_X12_draw.1 m_X12_draw.1 ∈ tb := tb8 2 rfl rfl
theorem vl_X12_draw : CV R_law 72 m_X12_draw 1 12 := ⟨⟨Or.inl ml_X12_draw, yi_X12_draw, yc_X12_draw, yn_X12_draw⟩, ym_X12_draw, ys_X12_draw, ⟨_, _, _, _, cf12, rfl⟩, by decide⟩
set_option maxRecDepth 20000 in
theorem ml_X11_trace : Cond.methodLink R_law 73 m_X11_trace.1 ∈ tb := tb5 95 rfl rfl
set_option maxRecDepth 20000 in
theorem yi_X11_trace : Cond.initialized m_X11_trace.1.cls ∈ tb := tb1 1 rfl rfl
set_option maxRecDepth 20000 in
theorem yc_X11_trace : Cond.code m_X11_trace.1 m_X11_trace.2.1 m_X11_trace.2.2.1 m_X11_trace.2.2.2 ∈ tb := tb5 98 rfl rfl
theorem yn_X11_trace : m_X11_trace.1.cls ≠ "java/lang/invoke/MethodHandle" ∧ m_X11_trace.1.cls ≠ "java/lang/invoke/VarHandle" ∧ (parseMethodDescriptor m_X11_trace.1.desc).map (fun d => d.parameters.length) = some 1 := ⟨by decide +kernel, by decide +kernel, by decide +kernel⟩
set_option maxRecDepth 20000 in
theorem ym_X11_trace : Cond.instanceMethod m_X11_trace.1 ∈ tb := tb5 96 rfl rfl
set_option maxRecDepth 20000 in
theorem ys_X11_trace : Cond.selects m_X11_trace.1.cls m_X11_trace.1 m_X11_trace.1 ∈ tb := tb5 97 rfl rfl
theorem vl_X11_trace : CV R_law 73 m_X11_trace 1 11 := ⟨⟨Or.inl ml_X11_trace, yi_X11_trace, yc_X11_trace, yn_X11_trace⟩, ym_X11_trace, ys_X11_trace, ⟨_, _, _, _, cf11, rfl⟩, by decide⟩
set_option maxRecDepth 20000 in
theorem ml_X12_trace : Cond.methodLink R_law 76 m_X12_trace.1 ∈ tb := tb8 4 rfl rfl
set_option maxRecDepth 20000 in
theorem yi_X12_trace : Cond.initialized m_X12_trace.1.cls ∈ tb := tb1 14 rfl rfl
set_option maxRecDepth 20000 in
theorem yc_X12_trace : Cond.code m_X12_trace.1 m_X12_trace.2.1 m_X12_trace.2.2.1 m_X12_trace.2.2.2 ∈ tb := tb8 7 rfl rfl
theorem yn_X12_trace : m_X12_trace.1.cls ≠ "java/lang/invoke/MethodHandle" ∧ m_X12_trace.1.cls ≠ "java/lang/invoke/VarHandle" ∧ (parseMethodDescriptor m_X12_trace.1.desc).map (fun d => d.parameters.length) = some 1 := ⟨by decide +kernel, by decide +kernel, by decide +kernel⟩
set_option maxRecDepth 20000 in
theorem ym_X12_trace : Cond.instanceMethod m_X12_trace.1 ∈ tb := tb8 5 rfl rfl
set_option maxRecDepth 20000 in
theorem ys_X12_trace : Cond.selects m_X12_trace.1.cls m_X12_trace.1 m_X12_trace.1 ∈ tb := tb8 6 rfl rfl
theorem vl_X12_trace : CV R_law 76 m_X12_trace 1 12 := ⟨⟨Or.inl ml_X12_trace, yi_X12_trace, yc_X12_trace, yn_X12_trace⟩, ym_X12_trace, ys_X12_trace, ⟨_, _, _, _, cf12, rfl⟩, by decide⟩
set_option maxRecDepth 20000 in
theorem ml_X11_keep : Cond.methodLink R_law 77 m_X11_keep.1 ∈ tb := tb5 105 rfl rfl
set_option maxRecDepth 20000 in
theorem yi_X11_keep : Cond.initialized m_X11_keep.1.cls ∈ tb := tb1 1 rfl rfl
set_option maxRecDepth 20000 in
theorem yc_X11_keep : Cond.code m_X11_keep.1 m_X11_keep.2.1 m_X11_keep.2.2.1 m_X11_keep.2.2.2 ∈ tb := tb5 108 rfl rfl
theorem yn_X11_keep : m_X11_keep.1.cls ≠ "java/lang/invoke/MethodHandle" ∧ m_X11_keep.1.cls ≠ "java/lang/invoke/VarHandle" ∧ (parseMethodDescriptor m_X11_keep.1.desc).map (fun d => d.parameters.length) = some 1 := ⟨by decide +kernel, by decide +kernel, by decide +kernel⟩
set_option maxRecDepth 20000 in
theorem ym_X11_keep : Cond.instanceMethod m_X11_keep.1 ∈ tb := tb5 106 rfl rfl
set_option maxRecDepth 20000 in
theorem ys_X11_keep : Cond.selects m_X11_keep.1.cls m_X11_keep.1 m_X11_keep.1 ∈ tb := tb5 107 rfl rfl
theorem vl_X11_keep : CV R_law 77 m_X11_keep 1 11 := ⟨⟨Or.inl ml_X11_keep, yi_X11_keep, yc_X11_keep, yn_X11_keep⟩, ym_X11_keep, ys_X11_keep, ⟨_, _, _, _, cf11, rfl⟩, by decide⟩
set_option maxRecDepth 20000 in
theorem ml_X12_keep : Cond.methodLink R_law 80 m_X12_keep.1 ∈ tb := tb8 8 rfl rfl
set_option maxRecDepth 20000 in
theorem yi_X12_keep : Cond.initialized m_X12_keep.1.cls ∈ tb := tb1 14 rfl rfl
set_option maxRecDepth 20000 in
theorem yc_X12_keep : Cond.code m_X12_keep.1 m_X12_keep.2.1 m_X12_keep.2.2.1 m_X12_keep.2.2.2 ∈ tb := tb8 11 rfl rfl
theorem yn_X12_keep : m_X12_keep.1.cls ≠ "java/lang/invoke/MethodHandle" ∧ m_X12_keep.1.cls ≠ "java/lang/invoke/VarHandle" ∧ (parseMethodDescriptor m_X12_keep.1.desc).map (fun d => d.parameters.length) = some 1 := ⟨by decide +kernel, by decide +kernel, by decide +kernel⟩
set_option maxRecDepth 20000 in
theorem ym_X12_keep : Cond.instanceMethod m_X12_keep.1 ∈ tb := tb8 9 rfl rfl
set_option maxRecDepth 20000 in
theorem ys_X12_keep : Cond.selects m_X12_keep.1.cls m_X12_keep.1 m_X12_keep.1 ∈ tb := tb8 10 rfl rfl
theorem vl_X12_keep : CV R_law 80 m_X12_keep 1 12 := ⟨⟨Or.inl ml_X12_keep, yi_X12_keep, yc_X12_keep, yn_X12_keep⟩, ym_X12_keep, ys_X12_keep, ⟨_, _, _, _, cf12, rfl⟩, by decide⟩
set_option maxRecDepth 20000 in
theorem ml_X11_back : Cond.methodLink R_law 81 m_X11_back.1 ∈ tb := tb5 116 rfl rfl
set_option maxRecDepth 20000 in
theorem yi_X11_back : Cond.initialized m_X11_back.1.cls ∈ tb := tb1 1 rfl rfl
set_option maxRecDepth 20000 in
theorem yc_X11_back : Cond.code m_X11_back.1 m_X11_back.2.1 m_X11_back.2.2.1 m_X11_back.2.2.2 ∈ tb := tb5 119 rfl rfl
theorem yn_X11_back : m_X11_back.1.cls ≠ "java/lang/invoke/MethodHandle" ∧ m_X11_back.1.cls ≠ "java/lang/invoke/VarHandle" ∧ (parseMethodDescriptor m_X11_back.1.desc).map (fun d => d.parameters.length) = some 1 := ⟨by decide +kernel, by decide +kernel, by decide +kernel⟩
set_option maxRecDepth 20000 in
theorem ym_X11_back : Cond.instanceMethod m_X11_back.1 ∈ tb := tb5 117 rfl rfl
set_option maxRecDepth 20000 in
theorem ys_X11_back : Cond.selects m_X11_back.1.cls m_X11_back.1 m_X11_back.1 ∈ tb := tb5 118 rfl rfl
theorem vl_X11_back : CV R_law 81 m_X11_back 1 11 := ⟨⟨Or.inl ml_X11_back, yi_X11_back, yc_X11_back, yn_X11_back⟩, ym_X11_back, ys_X11_back, ⟨_, _, _, _, cf11, rfl⟩, by decide⟩
set_option maxRecDepth 20000 in
theorem ml_X12_back : Cond.methodLink R_law 84 m_X12_back.1 ∈ tb := tb8 15 rfl rfl
set_option maxRecDepth 20000 in
theorem yi_X12_back : Cond.initialized m_X12_back.1.cls ∈ tb := tb1 14 rfl rfl
set_option maxRecDepth 20000 in
theorem yc_X12_back : Cond.code m_X12_back.1 m_X12_back.2.1 m_X12_back.2.2.1 m_X12_back.2.2.2 ∈ tb := tb8 18 rfl rfl
theorem yn_X12_back : m_X12_back.1.cls ≠ "java/lang/invoke/MethodHandle" ∧ m_X12_back.1.cls ≠ "java/lang/invoke/VarHandle" ∧ (parseMethodDescriptor m_X12_back.1.desc).map (fun d => d.parameters.length) = some 1 := ⟨by decide +kernel, by decide +kernel, by decide +kernel⟩
set_option maxRecDepth 20000 in
theorem ym_X12_back : Cond.instanceMethod m_X12_back.1 ∈ tb := tb8 16 rfl rfl
set_option maxRecDepth 20000 in
theorem ys_X12_back : Cond.selects m_X12_back.1.cls m_X12_back.1 m_X12_back.1 ∈ tb := tb8 17 rfl rfl
theorem vl_X12_back : CV R_law 84 m_X12_back 1 12 := ⟨⟨Or.inl ml_X12_back, yi_X12_back, yc_X12_back, yn_X12_back⟩, ym_X12_back, ys_X12_back, ⟨_, _, _, _, cf12, rfl⟩, by decide⟩
set_option maxRecDepth 20000 in
theorem ml_X11_like : Cond.methodLink R_law 85 m_X11_like.1 ∈ tb := tb5 120 rfl rfl
set_option maxRecDepth 20000 in
theorem yi_X11_like : Cond.initialized m_X11_like.1.cls ∈ tb := tb1 1 rfl rfl
set_option maxRecDepth 20000 in
theorem yc_X11_like : Cond.code m_X11_like.1 m_X11_like.2.1 m_X11_like.2.2.1 m_X11_like.2.2.2 ∈ tb := tb5 123 rfl rfl
theorem yn_X11_like : m_X11_like.1.cls ≠ "java/lang/invoke/MethodHandle" ∧ m_X11_like.1.cls ≠ "java/lang/invoke/VarHandle" ∧ (parseMethodDescriptor m_X11_like.1.desc).map (fun d => d.parameters.length) = some 1 := ⟨by decide +kernel, by decide +kernel, by decide +kernel⟩
set_option maxRecDepth 20000 in
theorem ym_X11_like : Cond.instanceMethod m_X11_like.1 ∈ tb := tb5 121 rfl rfl
set_option maxRecDepth 20000 in
theorem ys_X11_like : Cond.selects m_X11_like.1.cls m_X11_like.1 m_X11_like.1 ∈ tb := tb5 122 rfl rfl
theorem vl_X11_like : CV R_law 85 m_X11_like 1 11 := ⟨⟨Or.inl ml_X11_like, yi_X11_like, yc_X11_like, yn_X11_like⟩, ym_X11_like, ys_X11_like, ⟨_, _, _, _, cf11, rfl⟩, by decide⟩
set_option maxRecDepth 20000 in
theorem ml_X12_like : Cond.methodLink R_law 88 m_X12_like.1 ∈ tb := tb8 19 rfl rfl
set_option maxRecDepth 20000 in
theorem yi_X12_like : Cond.initialized m_X12_like.1.cls ∈ tb := tb1 14 rfl rfl
set_option maxRecDepth 20000 in
theorem yc_X12_like : Cond.code m_X12_like.1 m_X12_like.2.1 m_X12_like.2.2.1 m_X12_like.2.2.2 ∈ tb := tb8 22 rfl rfl
theorem yn_X12_like : m_X12_like.1.cls ≠ "java/lang/invoke/MethodHandle" ∧ m_X12_like.1.cls ≠ "java/lang/invoke/VarHandle" ∧ (parseMethodDescriptor m_X12_like.1.desc).map (fun d => d.parameters.length) = some 1 := ⟨by decide +kernel, by decide +kernel, by decide +kernel⟩
set_option maxRecDepth 20000 in
theorem ym_X12_like : Cond.instanceMethod m_X12_like.1 ∈ tb := tb8 20 rfl rfl
set_option maxRecDepth 20000 in
theorem ys_X12_like : Cond.selects m_X12_like.1.cls m_X12_like.1 m_X12_like.1 ∈ tb := tb8 21 rfl rfl
theorem vl_X12_like : CV R_law 88 m_X12_like 1 12 := ⟨⟨Or.inl ml_X12_like, yi_X12_like, yc_X12_like, yn_X12_like⟩, ym_X12_like, ys_X12_like, ⟨_, _, _, _, cf12, rfl⟩, by decide⟩
set_option maxRecDepth 20000 in
theorem ml_X11_reached : Cond.methodLink R_law 89 m_X11_reached.1 ∈ tb := tb5 163 rfl rfl
set_option maxRecDepth 20000 in
theorem yi_X11_reached : Cond.initialized m_X11_reached.1.cls ∈ tb := tb1 1 rfl rfl
set_option maxRecDepth 20000 in
theorem yc_X11_reached : Cond.code m_X11_reached.1 m_X11_reached.2.1 m_X11_reached.2.2.1 m_X11_reached.2.2.2 ∈ tb := tb5 166 rfl rfl
theorem yn_X11_reached : m_X11_reached.1.cls ≠ "java/lang/invoke/MethodHandle" ∧ m_X11_reached.1.cls ≠ "java/lang/invoke/VarHandle" ∧ (parseMethodDescriptor m_X11_reached.1.desc).map (fun d => d.parameters.length) = some 0 := ⟨by decide +kernel, by decide +kernel, by decide +kernel⟩
set_option maxRecDepth 20000 in
theorem ym_X11_reached : Cond.instanceMethod m_X11_reached.1 ∈ tb := tb5 164 rfl rfl
set_option maxRecDepth 20000 in
theorem ys_X11_reached : Cond.selects m_X11_reached.1.cls m_X11_reached.1 m_X11_reached.1 ∈ tb := tb5 165 rfl rfl
theorem vl_X11_reached : CV R_law 89 m_X11_reached 0 11 := ⟨⟨Or.inl ml_X11_reached, yi_X11_reached, yc_X11_reached, yn_X11_reached⟩, ym_X11_reached, ys_X11_reached, ⟨_, _, _, _, cf11, rfl⟩, by decide⟩
set_option maxRecDepth 20000 in
theorem ml_X12_reached : Cond.methodLink R_law 92 m_X12_reached.1 ∈ tb := tb8 51 rfl rfl
set_option maxRecDepth 20000 in
theorem yi_X12_reached : Cond.initialized m_X12_reached.1.cls ∈ tb := tb1 14 rfl rfl
set_option maxRecDepth 20000 in
theorem yc_X12_reached : Cond.code m_X12_reached.1 m_X12_reached.2.1 m_X12_reached.2.2.1 m_X12_reached.2.2.2 ∈ tb := tb8 54 rfl rfl
theorem yn_X12_reached : m_X12_reached.1.cls ≠ "java/lang/invoke/MethodHandle" ∧ m_X12_reached.1.cls ≠ "java/lang/invoke/VarHandle" ∧ (parseMethodDescriptor m_X12_reached.1.desc).map (fun d => d.parameters.length) = some 0 := ⟨by decide +kernel, by decide +kernel, by decide +kernel⟩
set_option maxRecDepth 20000 in
theorem ym_X12_reached : Cond.instanceMethod m_X12_reached.1 ∈ tb := tb8 52 rfl rfl
set_option maxRecDepth 20000 in
theorem ys_X12_reached : Cond.selects m_X12_reached.1.cls m_X12_reached.1 m_X12_reached.1 ∈ tb := tb8 53 rfl rfl
theorem vl_X12_reached : CV R_law 92 m_X12_reached 0 12 := ⟨⟨Or.inl ml_X12_reached, yi_X12_reached, yc_X12_reached, yn_X12_reached⟩, ym_X12_reached, ys_X12_reached, ⟨_, _, _, _, cf12, rfl⟩, by decide⟩
set_option maxRecDepth 20000 in
theorem ml_X11_print : Cond.methodLink R_law 93 m_X11_print.1 ∈ tb := tb5 167 rfl rfl
set_option maxRecDepth 20000 in
theorem yi_X11_print : Cond.initialized m_X11_print.1.cls ∈ tb := tb1 1 rfl rfl
set_option maxRecDepth 20000 in
theorem yc_X11_print : Cond.code m_X11_print.1 m_X11_print.2.1 m_X11_print.2.2.1 m_X11_print.2.2.2 ∈ tb := tb5 170 rfl rfl
theorem yn_X11_print : m_X11_print.1.cls ≠ "java/lang/invoke/MethodHandle" ∧ m_X11_print.1.cls ≠ "java/lang/invoke/VarHandle" ∧ (parseMethodDescriptor m_X11_print.1.desc).map (fun d => d.parameters.length) = some 1 := ⟨by decide +kernel, by decide +kernel, by decide +kernel⟩
set_option maxRecDepth 20000 in
theorem ym_X11_print : Cond.instanceMethod m_X11_print.1 ∈ tb := tb5 168 rfl rfl
set_option maxRecDepth 20000 in
theorem ys_X11_print : Cond.selects m_X11_print.1.cls m_X11_print.1 m_X11_print.1 ∈ tb := tb5 169 rfl rfl
theorem vl_X11_print : CV R_law 93 m_X11_print 1 11 := ⟨⟨Or.inl ml_X11_print, yi_X11_print, yc_X11_print, yn_X11_print⟩, ym_X11_print, ys_X11_print, ⟨_, _, _, _, cf11, rfl⟩, by decide⟩
set_option maxRecDepth 20000 in
theorem ml_X12_print : Cond.methodLink R_law 96 m_X12_print.1 ∈ tb := tb8 55 rfl rfl
set_option maxRecDepth 20000 in
theorem yi_X12_print : Cond.initialized m_X12_print.1.cls ∈ tb := tb1 14 rfl rfl
set_option maxRecDepth 20000 in
theorem yc_X12_print : Cond.code m_X12_print.1 m_X12_print.2.1 m_X12_print.2.2.1 m_X12_print.2.2.2 ∈ tb := tb8 58 rfl rfl
theorem yn_X12_print : m_X12_print.1.cls ≠ "java/lang/invoke/MethodHandle" ∧ m_X12_print.1.cls ≠ "java/lang/invoke/VarHandle" ∧ (parseMethodDescriptor m_X12_print.1.desc).map (fun d => d.parameters.length) = some 1 := ⟨by decide +kernel, by decide +kernel, by decide +kernel⟩
set_option maxRecDepth 20000 in
theorem ym_X12_print : Cond.instanceMethod m_X12_print.1 ∈ tb := tb8 56 rfl rfl
set_option maxRecDepth 20000 in
theorem ys_X12_print : Cond.selects m_X12_print.1.cls m_X12_print.1 m_X12_print.1 ∈ tb := tb8 57 rfl rfl
theorem vl_X12_print : CV R_law 96 m_X12_print 1 12 := ⟨⟨Or.inl ml_X12_print, yi_X12_print, yc_X12_print, yn_X12_print⟩, ym_X12_print, ys_X12_print, ⟨_, _, _, _, cf12, rfl⟩, by decide⟩
set_option maxRecDepth 20000 in
theorem ml_X11_out : Cond.methodLink R_law 97 m_X11_out.1 ∈ tb := tb5 199 rfl rfl
set_option maxRecDepth 20000 in
theorem yi_X11_out : Cond.initialized m_X11_out.1.cls ∈ tb := tb1 1 rfl rfl
set_option maxRecDepth 20000 in
theorem yc_X11_out : Cond.code m_X11_out.1 m_X11_out.2.1 m_X11_out.2.2.1 m_X11_out.2.2.2 ∈ tb := tb5 202 rfl rfl
theorem yn_X11_out : m_X11_out.1.cls ≠ "java/lang/invoke/MethodHandle" ∧ m_X11_out.1.cls ≠ "java/lang/invoke/VarHandle" ∧ (parseMethodDescriptor m_X11_out.1.desc).map (fun d => d.parameters.length) = some 1 := ⟨by decide +kernel, by decide +kernel, by decide +kernel⟩
set_option maxRecDepth 20000 in
theorem ym_X11_out : Cond.instanceMethod m_X11_out.1 ∈ tb := tb5 200 rfl rfl
set_option maxRecDepth 20000 in
theorem ys_X11_out : Cond.selects m_X11_out.1.cls m_X11_out.1 m_X11_out.1 ∈ tb := tb5 201 rfl rfl
theorem vl_X11_out : CV R_law 97 m_X11_out 1 11 := ⟨⟨Or.inl ml_X11_out, yi_X11_out, yc_X11_out, yn_X11_out⟩, ym_X11_out, ys_X11_out, ⟨_, _, _, _, cf11, rfl⟩, by decide⟩
set_option maxRecDepth 20000 in
theorem ml_X12_out : Cond.methodLink R_law 100 m_X12_out.1 ∈ tb := tb8 68 rfl rfl
set_option maxRecDepth 20000 in
theorem yi_X12_out : Cond.initialized m_X12_out.1.cls ∈ tb := tb1 14 rfl rfl
set_option maxRecDepth 20000 in
theorem yc_X12_out : Cond.code m_X12_out.1 m_X12_out.2.1 m_X12_out.2.2.1 m_X12_out.2.2.2 ∈ tb := tb8 71 rfl rfl
theorem yn_X12_out : m_X12_out.1.cls ≠ "java/lang/invoke/MethodHandle" ∧ m_X12_out.1.cls ≠ "java/lang/invoke/VarHandle" ∧ (parseMethodDescriptor m_X12_out.1.desc).map (fun d => d.parameters.length) = some 1 := ⟨by decide +kernel, by decide +kernel, by decide +kernel⟩
set_option maxRecDepth 20000 in
theorem ym_X12_out : Cond.instanceMethod m_X12_out.1 ∈ tb := tb8 69 rfl rfl
set_option maxRecDepth 20000 in
theorem ys_X12_out : Cond.selects m_X12_out.1.cls m_X12_out.1 m_X12_out.1 ∈ tb := tb8 70 rfl rfl
theorem vl_X12_out : CV R_law 100 m_X12_out 1 12 := ⟨⟨Or.inl ml_X12_out, yi_X12_out, yc_X12_out, yn_X12_out⟩, ym_X12_out, ys_X12_out, ⟨_, _, _, _, cf12, rfl⟩, by decide⟩
