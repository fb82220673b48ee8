/** Counts and tells the answers that are not the ones that are due. */
final class Check {
    interface Call {
        long answer();
    }

    private final String name;
    private int asked = 0;
    private int wrong = 0;

    Check(String name) {
        this.name = name;
    }

    void due(String call, long want, Call made) {
        asked++;
        String got = outcome(made);
        if (!got.equals(Long.toString(want))) {
            tell(call, got, Long.toString(want));
        }
    }

    void refused(String call, Class<? extends RuntimeException> kind, Call made) {
        asked++;
        String got = outcome(made);
        if (!got.equals(kind.getName())) {
            tell(call, got, kind.getName());
        }
    }

    void same(String what, String want, String got) {
        asked++;
        if (!want.equals(got)) {
            tell(what, got, want);
        }
    }

    /** The answer as a text, or the name of the exception that was thrown. */
    static String outcome(Call made) {
        try {
            return Long.toString(made.answer());
        } catch (RuntimeException e) {
            return e.getClass().getName();
        }
    }

    void end() {
        System.out.println(name + ": " + asked + " answers, " + wrong + " of them not as due");
        if (wrong != 0) {
            System.exit(1);
        }
    }

    private void tell(String call, String got, String want) {
        wrong++;
        if (wrong <= 50) {
            System.out.println(name + ": " + call + " answered " + got + ", due is " + want);
        }
    }
}
