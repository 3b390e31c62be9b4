/-! Work's methods and the reference's are as their models, at every depth. -/
def wAll (K C d : Nat) : Prop := wT67 K d C ∧ wT97 K d C ∧ wT99 K d C ∧ wT101 K d C ∧ wT94 K d C ∧ wT79 K d C ∧ wT105 K d C ∧ wT108 K d C ∧ wT92 K d C ∧ wT95 K d C ∧ wT91 K d C ∧ wT84 K d C ∧ wT83 K d C ∧ wT88 K d C ∧ wT102 K d C ∧ wT90 K d C ∧ wT89 K d C ∧ wT93 K d C ∧ wT100 K d C ∧ wT85 K d C ∧ wT106 K d C ∧ wT104 K d C ∧ wT107 K d C ∧ wT87 K d C ∧ wT98 K d C ∧ wT96 K d C ∧ wT103 K d C ∧ wT110 K d C ∧ wT109 K d C ∧ wT86 K d C ∧ wT82 K d C ∧ wT78 K d C ∧ wT23 K d C ∧ wT27 K d C ∧ wT30 K d C ∧ wT29 K d C ∧ wT26 K d C ∧ wT114 K d C ∧ wT39 K d C ∧ wT62 K d C ∧ wT63 K d C ∧ wT113 K d C ∧ wT80 K d C ∧ wT81 K d C ∧ wT111 K d C ∧ wT112 K d C ∧ wT115 K d C ∧ wT18 K d C
theorem w_all {K C : Nat} : ∀ d, wAll K C d
  | 0 => by
    refine ⟨?_, ?_, ?_, ?_, ?_, ?_, ?_, ?_, ?_, ?_, ?_, ?_, ?_, ?_, ?_, ?_, ?_, ?_, ?_, ?_, ?_, ?_, ?_, ?_, ?_, ?_, ?_, ?_, ?_, ?_, ?_, ?_, ?_, ?_, ?_, ?_, ?_, ?_, ?_, ?_, ?_, ?_, ?_, ?_, ?_, ?_, ?_, ?_⟩
    · unfold wT67; intros; exact pcr0
    · unfold wT97; intros; exact pcr0
    · unfold wT99; intros; exact pcr0
    · unfold wT101; intros; exact pcr0
    · unfold wT94; intros; exact pcr0
    · unfold wT79; intros; exact pcr0
    · unfold wT105; intros; exact pcr0
    · unfold wT108; intros; exact pcr0
    · unfold wT92; intros; exact pcr0
    · unfold wT95; intros; exact pcr0
    · unfold wT91; intros; exact pcr0
    · unfold wT84; intros; exact pcr0
    · unfold wT83; intros; exact pcr0
    · unfold wT88; intros; exact pcr0
    · unfold wT102; intros; exact pcr0
    · unfold wT90; intros; exact pcr0
    · unfold wT89; intros; exact pcr0
    · unfold wT93; intros; exact pcr0
    · unfold wT100; intros; exact pcr0
    · unfold wT85; intros; exact pcr0
    · unfold wT106; intros; exact pcr0
    · unfold wT104; intros; exact pcr0
    · unfold wT107; intros; exact pcr0
    · unfold wT87; intros; exact pcr0
    · unfold wT98; intros; exact pcr0
    · unfold wT96; intros; exact pcr0
    · unfold wT103; intros; exact pcr0
    · unfold wT110; intros; exact pcr0
    · unfold wT109; intros; exact pcr0
    · unfold wT86; intros; exact pcr0
    · unfold wT82; intros; exact pcr0
    · unfold wT78; intros; exact pcr0
    · unfold wT23; intros; exact pcr0
    · unfold wT27; intros; exact pcr0
    · unfold wT30; intros; exact pcr0
    · unfold wT29; intros; exact pcr0
    · unfold wT26; intros; exact pcr0
    · unfold wT114; intros; exact pcr0
    · unfold wT39; intros; exact pcr0
    · unfold wT62; intros; exact pcr0
    · unfold wT63; intros; exact pcr0
    · unfold wT113; intros; exact pcr0
    · unfold wT80; intros; exact pcr0
    · unfold wT81; intros; exact pcr0
    · unfold wT111; intros; exact pcr0
    · unfold wT112; intros; exact pcr0
    · unfold wT115; intros; exact pcr0
    · unfold wT18; intros; exact pcr0
  | d + 1 => by
    obtain ⟨h_67, h_97, h_99, h_101, h_94, h_79, h_105, h_108, h_92, h_95, h_91, h_84, h_83, h_88, h_102, h_90, h_89, h_93, h_100, h_85, h_106, h_104, h_107, h_87, h_98, h_96, h_103, h_110, h_109, h_86, h_82, h_78, h_23, h_27, h_30, h_29, h_26, h_114, h_39, h_62, h_63, h_113, h_80, h_81, h_111, h_112, h_115, h_18⟩ := w_all (K := K) (C := C) d
    exact ⟨wm67, wm97 h_67, wm99, wm101, wm94, wm79, wm105, wm108, wm92, wm95 h_92, wm91 h_92, wm84, wm83 h_67 h_84, wm88 h_67 h_84, wm102 h_83 h_88, wm90 h_67, wm89, wm93 h_94, wm100 h_94, wm85 h_84, wm106 h_67 h_88 h_90 h_100, wm104 h_88 h_105 h_106, wm107 h_88 h_90 h_100 h_106 h_108, wm87 h_83 h_88 h_89 h_90 h_91 h_93 h_95, wm98 h_90 h_97 h_99 h_100, wm96 h_83 h_90 h_97 h_98 h_101 h_102, wm103 h_83 h_88 h_90 h_100 h_104 h_107, wm110 h_83 h_88 h_97, wm109 h_83 h_88 h_90 h_97 h_102 h_110, wm86 h_87 h_96 h_103 h_109, wm82 h_83 h_85 h_86, wm78 h_23 h_79, wm23, wm27, wm30, wm29 h_27 h_30, wm26, wm114 h_26 h_29, wm39, wm62, wm63, wm113 h_39 h_62 h_63 h_89 h_93 h_114, wm80 h_78, wm81 h_82, wm111 h_105, wm112 h_108, wm115, wm18⟩
theorem w_t78 {K C d : Nat} : wT78 K d C := (w_all d).2.2.2.2.2.2.2.2.2.2.2.2.2.2.2.2.2.2.2.2.2.2.2.2.2.2.2.2.2.2.2.1
theorem w_t80 {K C d : Nat} : wT80 K d C := (w_all d).2.2.2.2.2.2.2.2.2.2.2.2.2.2.2.2.2.2.2.2.2.2.2.2.2.2.2.2.2.2.2.2.2.2.2.2.2.2.2.2.2.2.1
theorem w_t81 {K C d : Nat} : wT81 K d C := (w_all d).2.2.2.2.2.2.2.2.2.2.2.2.2.2.2.2.2.2.2.2.2.2.2.2.2.2.2.2.2.2.2.2.2.2.2.2.2.2.2.2.2.2.2.1
theorem w_t111 {K C d : Nat} : wT111 K d C := (w_all d).2.2.2.2.2.2.2.2.2.2.2.2.2.2.2.2.2.2.2.2.2.2.2.2.2.2.2.2.2.2.2.2.2.2.2.2.2.2.2.2.2.2.2.2.1
theorem w_t112 {K C d : Nat} : wT112 K d C := (w_all d).2.2.2.2.2.2.2.2.2.2.2.2.2.2.2.2.2.2.2.2.2.2.2.2.2.2.2.2.2.2.2.2.2.2.2.2.2.2.2.2.2.2.2.2.2.1
theorem w_t115 {K C d : Nat} : wT115 K d C := (w_all d).2.2.2.2.2.2.2.2.2.2.2.2.2.2.2.2.2.2.2.2.2.2.2.2.2.2.2.2.2.2.2.2.2.2.2.2.2.2.2.2.2.2.2.2.2.2.1
theorem w_t18 {K C d : Nat} : wT18 K d C := (w_all d).2.2.2.2.2.2.2.2.2.2.2.2.2.2.2.2.2.2.2.2.2.2.2.2.2.2.2.2.2.2.2.2.2.2.2.2.2.2.2.2.2.2.2.2.2.2.2
theorem w_t113 {K C d : Nat} : wT113 K d C := (w_all d).2.2.2.2.2.2.2.2.2.2.2.2.2.2.2.2.2.2.2.2.2.2.2.2.2.2.2.2.2.2.2.2.2.2.2.2.2.2.2.2.2.1
def eAll (K C d : Nat) : Prop := eT120 K d C ∧ eT166 K d C ∧ eT164 K d C ∧ eT167 K d C ∧ eT171 K d C ∧ eT172 K d C ∧ eT161 K d C ∧ eT168 K d C ∧ eT170 K d C ∧ eT169 K d C ∧ eT163 K d C ∧ eT165 K d C ∧ eT162 K d C ∧ eT173 K d C ∧ eT174 K d C ∧ eT176 K d C ∧ eT119 K d C ∧ eT175 K d C
theorem e_all {K C : Nat} : ∀ d, eAll K C d
  | 0 => by
    refine ⟨?_, ?_, ?_, ?_, ?_, ?_, ?_, ?_, ?_, ?_, ?_, ?_, ?_, ?_, ?_, ?_, ?_, ?_⟩
    · unfold eT120; intros; exact pcr0
    · unfold eT166; intros; exact pcr0
    · unfold eT164; intros; exact pcr0
    · unfold eT167; intros; exact pcr0
    · unfold eT171; intros; exact pcr0
    · unfold eT172; intros; exact pcr0
    · unfold eT161; intros; exact pcr0
    · unfold eT168; intros; exact pcr0
    · unfold eT170; intros; exact pcr0
    · unfold eT169; intros; exact pcr0
    · unfold eT163; intros; exact pcr0
    · unfold eT165; intros; exact pcr0
    · unfold eT162; intros; exact pcr0
    · unfold eT173; intros; exact pcr0
    · unfold eT174; intros; exact pcr0
    · unfold eT176; intros; exact pcr0
    · unfold eT119; intros; exact pcr0
    · unfold eT175; intros; exact pcr0
  | d + 1 => by
    obtain ⟨h_120, h_166, h_164, h_167, h_171, h_172, h_161, h_168, h_170, h_169, h_163, h_165, h_162, h_173, h_174, h_176, h_119, h_175⟩ := e_all (K := K) (C := C) d
    exact ⟨em120, em166, em164, em167, em171, em172, em161, em168, em170 h_164 h_167 h_171 h_172, em169 h_161 h_166, em163 h_164, em165 h_164 h_166 h_167 h_168 h_169 h_170, em162 h_120 h_163 h_165, em173 h_120, em174 h_120 h_172, em176 h_120, em119 h_120, em175⟩
theorem e_t162 {K C d : Nat} : eT162 K d C := (e_all d).2.2.2.2.2.2.2.2.2.2.2.2.1
theorem e_t173 {K C d : Nat} : eT173 K d C := (e_all d).2.2.2.2.2.2.2.2.2.2.2.2.2.1
theorem e_t174 {K C d : Nat} : eT174 K d C := (e_all d).2.2.2.2.2.2.2.2.2.2.2.2.2.2.1
theorem e_t176 {K C d : Nat} : eT176 K d C := (e_all d).2.2.2.2.2.2.2.2.2.2.2.2.2.2.2.1
theorem e_t119 {K C d : Nat} : eT119 K d C := (e_all d).2.2.2.2.2.2.2.2.2.2.2.2.2.2.2.2.1
theorem e_t175 {K C d : Nat} : eT175 K d C := (e_all d).2.2.2.2.2.2.2.2.2.2.2.2.2.2.2.2.2
