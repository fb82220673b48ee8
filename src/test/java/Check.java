/** Counts and tells the answers that are not the ones that are due. */
final class Check {
    interface Call {
        long answer();
    }

    private final String name;
    private String sentence = "";
    private int sentences = 0;
    private int asked = 0;
    private int wrong = 0;

    Check(String name) {
        this.name = name;
    }

    /** The words of the document that the next answers are asked for. */
    void about(String words) {
        sentence = words;
        sentences++;
    }

    void due(String call, long want, Call made) {
        asked++;
        String got = outcome(made);
        if (!got.equals(Long.toString(want))) {
            tell(call, got, Long.toString(want));
        }
    }

    /** Answers of one call for 0, 1, 2 .. */
    void row(String call, Row made, long... want) {
        for (int i = 0; i < want.length; i++) {
            int n = i;
            due(call + " of " + i, want[i], () -> made.answer(n));
        }
    }

    interface Row {
        long answer(int n);
    }

    void refused(String call, Class<? extends RuntimeException> kind, Call made) {
        asked++;
        String got = outcome(made);
        if (!got.equals(kind.getName())) {
            tell(call, got, kind.getName());
        }
    }

    void same(String what, String want, String got) {
        asked++;
        if (!want.equals(got)) {
            tell(what, got, want);
        }
    }

    /** The answer as a text, or the name of the exception that was thrown. */
    static String outcome(Call made) {
        try {
            return Long.toString(made.answer());
        } catch (RuntimeException e) {
            return e.getClass().getName();
        }
    }

    void end() {
        String about = sentences == 0 ? "" : " about " + sentences + " sentences";
        System.out.println(name + ": " + asked + " answers" + about + ", " + wrong + " of them not as due");
        if (wrong != 0) {
            System.exit(1);
        }
    }

    private void tell(String call, String got, String want) {
        wrong++;
        if (wrong <= 50) {
            String about = sentence.isEmpty() ? "" : "\"" + sentence + "\": ";
            System.out.println(name + ": " + about + call + " answered " + got + ", due is " + want);
        }
    }
}
