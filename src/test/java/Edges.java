import java.util.LinkedHashSet;
import java.util.Set;

/** Boundary cases. Each is named by its promise and by the very words of the document that tell it. */
final class Edges extends Due {
    /** What an object answers behind so many calls is free. */
    private static final int MOST_CALLS = 512;

    private final boolean quiet;
    private final Set<String> sentences = new LinkedHashSet<>();
    private final Set<String> broken = new LinkedHashSet<>();
    private String at = "";

    /** A quiet one prints no wrong answers. */
    Edges(boolean quiet) {
        super("EdgesTest");
        this.quiet = quiet;
    }

    /** The answers from here on are due by these words, which the promise says or stands on. */
    void edge(int promise, String words) {
        at = promise + " " + words;
        sentences.add(at);
        about("promise " + promise + ", '" + words + "'");
    }

    @Override
    void due(String call, long got, long want) {
        if (got != want) {
            broken.add(at);
        }
        super.due(call, got, want);
    }

    @Override
    void tell(String line) {
        if (!quiet) {
            super.tell(line);
        }
    }

    /** The promise's number and the words, of every case so far. */
    Set<String> sentences() {
        return sentences;
    }

    /** Those of them by which some answer was not the one that is due. */
    Set<String> broken() {
        return broken;
    }

    // ---- what most of the tests ask

    private RdsDesk asked(Sender sender) {
        sender.calls++;
        if (sender.calls > MOST_CALLS) {
            due("calls of one object", sender.calls, MOST_CALLS);
        }
        return sender.desk;
    }

    void state(Sender sender, int what, int want) {
        due("state(" + what + ")", asked(sender).state(what), want);
    }

    void programme(Sender sender, int what, int want) {
        due("programme(" + what + ")", asked(sender).programme(what), want);
    }

    void reports(Sender sender, int what, int want) {
        due("reports(" + what + ")", asked(sender).reports(what), want);
    }

    void marks(Sender sender, int what, int want) {
        due("marks(" + what + ")", asked(sender).marks(what), want);
    }

    /** All of them, and that there is none ahead of and behind them. */
    void letters(Sender sender, int what, String want) {
        for (int k = -1; k <= want.length(); k++) {
            boolean isThere = k >= 0 && k < want.length();
            due("letter(" + what + ", " + k + ")", asked(sender).letter(what, k), isThere ? want.charAt(k) : -1);
        }
    }

    /** What BLOCKS 0 .. 3 have, then how they were, then the type: as many as are given. */
    void group(Sender sender, int... wants) {
        for (int what = 0; what < wants.length; what++) {
            due("group(" + what + ")", asked(sender).group(what), wants[what]);
        }
    }

    /** REPORTS of the LIST, and all its frequencies. */
    void list(Sender sender, int reports, int... wants) {
        reports(sender, 3, reports);
        for (int k = -1; k <= wants.length; k++) {
            boolean isThere = k >= 0 && k < wants.length;
            due("frequency(" + k + ")", asked(sender).frequency(k), isThere ? wants[k] : -1);
        }
    }

    void time(Sender sender, int... wants) {
        for (int what = 0; what < wants.length; what++) {
            due("time(" + what + ")", asked(sender).time(what), wants[what]);
        }
    }

    /** AID, type and version, and what C had; without them: that there is no such ODA. */
    void oda(Sender sender, int k, int... wants) {
        for (int what = 0; what < 3; what++) {
            due("oda(" + k + ", " + what + ")", asked(sender).oda(k, what), wants.length == 0 ? -1 : wants[what]);
        }
    }

    /** REPORTS of TAGS, and what they tell; without that: that there are none. */
    void tags(Sender sender, int reports, int... wants) {
        reports(sender, 5, reports);
        for (int what = 0; what < 8; what++) {
            due("tag(" + what + ")", asked(sender).tag(what), wants.length == 0 ? -1 : wants[what]);
        }
    }

    /** What an OTHER has, as much as is given; without that: that there is no such one. */
    void other(Sender sender, int k, int... wants) {
        for (int what = 0; what < (wants.length == 0 ? 12 : wants.length); what++) {
            due("other(" + k + ", " + what + ")", asked(sender).other(k, what), wants.length == 0 ? -1 : wants[what]);
        }
    }

    void otherName(Sender sender, int k, String want) {
        for (int i = -1; i <= want.length(); i++) {
            boolean isThere = i >= 0 && i < want.length();
            due("otherLetter(" + k + ", " + i + ")", asked(sender).otherLetter(k, i), isThere ? want.charAt(i) : -1);
        }
    }

    /** That two desks know the same of what GROUPS tell and what is put together. */
    void alike(Sender sender, Sender model) {
        for (int what = 0; what <= 12; what++) {
            programme(sender, what, asked(model).programme(what));
            reports(sender, what, asked(model).reports(what));
            marks(sender, what, asked(model).marks(what));
            due("time(" + what + ")", asked(sender).time(what), asked(model).time(what));
            due("tag(" + what + ")", asked(sender).tag(what), asked(model).tag(what));
            due("frequency(" + what + ")", asked(sender).frequency(what), asked(model).frequency(what));
            due("other(0, " + what + ")", asked(sender).other(0, what), asked(model).other(0, what));
            due("otherLetter(0, " + what + ")", asked(sender).otherLetter(0, what), asked(model).otherLetter(0, what));
            due("oda(0, " + what + ")", asked(sender).oda(0, what), asked(model).oda(0, what));
            for (int whose = 0; whose <= 4; whose++) {
                due("letter(" + whose + ", " + what + ")", asked(sender).letter(whose, what),
                        asked(model).letter(whose, what));
            }
        }
    }
}
