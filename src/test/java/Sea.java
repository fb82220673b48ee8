/** Feeds texts, and tells all that an object shows. */
final class Sea {
    private static final int FEED = 20;

    private Sea() {
    }

    /** An object that was told this text, which must have no fault. */
    static SeaMeeting of(String text) {
        SeaMeeting sea = new SeaMeeting();
        int answer = tell(sea, text);
        if (answer < 0) {
            throw new IllegalStateException("fault " + (answer + 10) + " at " + sea.fault() + " of " + text);
        }
        return sea;
    }

    static int tell(SeaMeeting sea, String text) {
        feed(sea, text);
        return sea.text(text.length());
    }

    static void feed(SeaMeeting sea, String text) {
        for (int at = 0; at < text.length(); at += FEED) {
            sea.feed(number(text, at), number(text, at + 4), number(text, at + 8), number(text, at + 12),
                    number(text, at + 16));
        }
    }

    private static int number(String text, int at) {
        int number = 0;
        for (int i = at; i < at + 4; i++) {
            number = number << 8 | (i < text.length() ? text.charAt(i) & 255 : 0);
        }
        return number;
    }

    /** All but status(), by calls that are not refused. */
    static String shown(SeaMeeting sea) {
        StringBuilder all = new StringBuilder(stateOf(sea));
        all.append(" tape ").append(sea.told(11)).append(" fault ").append(sea.fault());
        return all.append(" kept ").append(sea.told(12)).toString();
    }

    /** What acts change and undo() brings back. */
    static String stateOf(SeaMeeting sea) {
        StringBuilder all = new StringBuilder();
        for (int what = 0; what <= 10; what++) {
            all.append(sea.told(what)).append(' ');
        }
        all.append("cells ");
        for (int y = 0; y < sea.told(1); y++) {
            for (int x = 0; x < sea.told(0); x++) {
                all.append(sea.cell(x, y, 0)).append(sea.cell(x, y, 1)).append(' ');
            }
        }
        all.append("winds ");
        for (int hour = 0; hour <= 560; hour++) {
            all.append(sea.blows(hour));
        }
        all.append(" drift ");
        for (int n = 0; n <= 60; n++) {
            for (int what = 0; what < 4; what++) {
                all.append(sea.drift(n, what)).append(' ');
            }
        }
        for (int i = 0; i < sea.told(3); i++) {
            all.append("helper ").append(shownHelper(sea, i));
        }
        return all.append("print ").append(sea.print()).append(' ').append(sea.first()).toString();
    }

    private static String shownHelper(SeaMeeting sea, int helper) {
        StringBuilder all = new StringBuilder();
        for (int what = 0; what < 4; what++) {
            all.append(sea.helper(helper, what)).append(' ');
        }
        all.append(sea.meet(helper, 0)).append(' ').append(sea.meet(helper, 1)).append(" route ");
        for (int k = 0; k < 61; k++) {
            all.append(sea.route(helper, k)).append(' ');
        }
        all.append("home ").append(sea.home(helper, 0)).append(' ').append(sea.home(helper, 1)).append(' ');
        return all.toString();
    }

    static String statusOf(SeaMeeting sea) {
        return sea.status(0) + " " + sea.status(1) + " " + sea.status(2);
    }
}
