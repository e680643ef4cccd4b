theorem xr_all : ∃ R : xm_M → xm_M → Prop, xl_Sim R ∧ R xk_Mc xk_Mm := sorry
