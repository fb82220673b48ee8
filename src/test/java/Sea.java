/** Feeds texts, and tells all that an object shows. */
final class Sea {
    private static final int FEED = 20;

    private Sea() {
    }

    /** An object that was told this text, which must have no fault. */
    static SeaMeeting of(String text) {
        SeaMeeting sea = new SeaMeeting();
        int answer = tell(sea, text);
        if (answer < 0) {
            throw new IllegalStateException("fault " + (answer + 10) + " at " + sea.fault() + " of " + text);
        }
        return sea;
    }

    static int tell(SeaMeeting sea, String text) {
        feed(sea, text);
        return sea.text(text.length());
    }

    static void feed(SeaMeeting sea, String text) {
        for (int at = 0; at < text.length(); at += FEED) {
            sea.feed(number(text, at), number(text, at + 4), number(text, at + 8), number(text, at + 12),
                    number(text, at + 16));
        }
    }

    static int number(String text, int at) {
        int number = 0;
        for (int i = at; i < at + 4; i++) {
            number = number << 8 | (i < text.length() ? text.charAt(i) & 255 : 0);
        }
        return number;
    }

    /** All but status(), as far as some hundred calls can ask for it, none of them refused. */
    static String shown(SeaMeeting sea) {
        return stateOf(sea) + " tape " + sea.told(11) + " fault " + sea.fault() + " kept " + sea.told(12);
    }

    /** What acts change and undo() brings back. */
    static String stateOf(SeaMeeting sea) {
        StringBuilder all = new StringBuilder();
        for (int what = 0; what <= 10; what++) {
            all.append(sea.told(what)).append(' ');
        }
        for (int x = 0; x < 3; x++) {
            for (int y = 0; y < 3; y++) {
                all.append(sea.cell(x, y, 0)).append(sea.cell(x, y, 1)).append(' ');
            }
        }
        all.append("winds ");
        for (int hour = 0; hour < 8; hour++) {
            all.append(sea.blows(hour)).append(sea.blows(hour + 500)).append(' ');
        }
        all.append(sea.blows(560)).append(" drift ");
        for (int n : new int[] {0, 1, 2, 7, 60}) {
            for (int what = 0; what < 4; what++) {
                all.append(sea.drift(n, what)).append(' ');
            }
        }
        for (int i = 0; i < sea.told(3); i++) {
            all.append("helper ").append(shownHelper(sea, i));
        }
        return all.append("print ").append(sea.print()).append(' ').append(sea.first()).toString();
    }

    private static String shownHelper(SeaMeeting sea, int helper) {
        StringBuilder all = new StringBuilder();
        for (int what = 0; what < 4; what++) {
            all.append(sea.helper(helper, what)).append(' ');
        }
        all.append(sea.meet(helper, 0)).append(' ').append(sea.meet(helper, 1)).append(" route ");
        for (int k = 0; k < 5; k++) {
            all.append(sea.route(helper, k)).append(' ');
        }
        all.append("least ").append(sea.least(helper, 60)).append(" reach ").append(sea.reach(helper, 3));
        return all.append(" home ").append(sea.home(helper, 0)).append(' ').append(sea.home(helper, 1)).append(' ')
                .toString();
    }

    static String statusOf(SeaMeeting sea) {
        return sea.status(0) + " " + sea.status(1) + " " + sea.status(2);
    }
}
