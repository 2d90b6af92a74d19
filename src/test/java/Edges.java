import java.util.ArrayList;
import java.util.List;

/**
 * Tests of the document's edges. Each test first says which promise it is of and which sentence of
 * the document it holds to; what is not as due is told with both.
 */
final class Edges {
    static final int NONE = ChairSmells.NONE, BAD = ChairSmells.BAD, NOT = ChairSmells.NOT, FULL = ChairSmells.FULL;
    static final int NULL = -11, INDEX = -12, CAST = -13, STORE = -14, SIZE = -15;
    static final int LEAST = Integer.MIN_VALUE, MOST = Integer.MAX_VALUE;
    static final long BAD_LONG = Long.MIN_VALUE + 2;

    interface Call {
        long on(ChairSmells x);
    }

    interface Maker {
        ChairSmells make();
    }

    private final Check check = new Check();
    private final Document document;
    private String place = "";
    private int duesOfSentence = 1;

    Edges(String text) {
        document = new Document(text);
    }

    /** What follows tests this sentence (or this part of a long one) of a promise or of what it leans on. */
    void says(int promise, String sentence) {
        check.same(place + "has a test", duesOfSentence > 0, true);
        place = "promise " + promise + ", \"" + sentence + "\": ";
        duesOfSentence = 0;
        check.same(place + "stands in the document", document.quote(promise, sentence), true);
    }

    void due(String call, long got, long want) {
        duesOfSentence++;
        check.due(place + call, got, want);
    }

    /** A call is refused and changes nothing, nor the latest finding. */
    void refused(Maker maker, String call, Call asked, long want) {
        ChairSmells x = maker.make();
        due(call, asked.on(x), want);
        due(call + " is no finding", x.count(8), maker.make().count(8));
        unchanged(x, maker, call);
    }

    void bad(Maker maker, String call, Call asked) {
        refused(maker, call, asked, BAD);
    }

    /** A call is refused by a finding, and changes nothing but what the latest finding is. */
    void finds(Maker maker, String call, Call asked, int finding) {
        ChairSmells x = maker.make();
        due(call, asked.on(x), finding);
        due(call + " is the latest finding", x.count(8), -10 - finding);
        unchanged(x, maker, call);
    }

    /** An answer of get: the least int, and the latest finding tells. */
    void getFinds(Maker maker, String call, Call asked, int finding) {
        ChairSmells x = maker.make();
        due(call, asked.on(x), LEAST);
        due(call + " is the latest finding", x.count(8), -10 - finding);
        unchanged(x, maker, call);
    }

    /** A call that only asks changes nothing. */
    void unchanged(ChairSmells x, Maker maker, String call) {
        check.same(place + call + " changes nothing", state(x), state(maker.make()));
    }

    void end() {
        check.same(place + "has a test", duesOfSentence > 0, true);
        for (String left : document.unquoted()) {
            check.same("a sentence without a test", left, "none");
        }
        check.end();
    }

    /** All that can be known of an object but its latest finding; the object is used up by it. */
    private static List<Long> state(ChairSmells x) {
        List<Long> state = new ArrayList<>();
        for (int what = 0; what < 8; what++) {
            state.add((long) x.count(what));
        }
        state.add(x.digest());
        for (int hour = 0; hour < 24; hour++) {
            state.add((long) x.tells(hour, NONE));
        }
        for (int s = 0; s < 3; s++) {
            for (int i = 0; i < 8; i++) {
                state.add((long) x.get(s, s, i));
            }
        }
        for (int s = 0; s < 4; s++) {
            state.add((long) x.lose(s));
        }
        state.add((long) x.forget());
        for (int left = x.count(4); left > 0; left--) {
            state.add((long) x.back(0));
            state.add((long) x.tells(23, NONE));
        }
        for (int left = x.count(5); left > 0; left--) {
            state.add((long) x.back(1));
        }
        state.add((long) x.undo(0));
        state.add((long) x.undo(1));
        return state;
    }

    /** Three things, five people, something of all that can be told; the latest finding is SIZE. */
    static ChairSmells rich() {
        ChairSmells x = Check.house("32o;21u;55o", "51.;30.;92.;40b;61.");
        sits(x, 0, 0, 0, 1, 1, 0, 1, 2, 1, 2, 3, 2, 3, 4, 0, 4, 0, 1, 5, 7, 0);
        x.window(4, 0);
        x.window(2, 1);
        x.smelt(9, 5, 0);
        sheetsOfEachForm(x);
        return x;
    }

    /** All that there may be of each; the latest finding is SIZE. */
    static ChairSmells full() {
        ChairSmells x = Check.house("32o;21u;55o;11o;44u;15o", "51.;30.;92.;40b;61.;70.;81a;90.");
        for (int n = 0; n < 20; n++) {
            x.sit(n, n % 8, n % 6);
        }
        for (int n = 0; n < 8; n++) {
            x.window(2 * n + 1, n % 6);
            x.smelt(n, n % 6, x.tells(n, n % 6));
        }
        sheetsOfEachForm(x);
        return x;
    }

    /** Nothing but that the latest finding is SIZE. */
    static ChairSmells empty() {
        ChairSmells x = new ChairSmells();
        x.sheet(0, 0, -1);
        return x;
    }

    /** Sheets 0, 1, 2 are bytes, shorts, ints; sheet 3 is lost. */
    private static void sheetsOfEachForm(ChairSmells x) {
        Check.sheet(x, 0, 0, 1, 2, 3, 4, 5, 6);
        Check.sheet(x, 1, 1, 0, 0, 0, 1, 1, 1, 7);
        Check.sheet(x, 2, 2, 300000, -1, 5);
        x.sheet(3, 0, -1);
    }

    /** Sittings, three numbers each: hour, person, thing. */
    static ChairSmells sits(ChairSmells x, int... rows) {
        for (int i = 0; i + 2 < rows.length; i += 3) {
            x.sit(rows[i], rows[i + 1], rows[i + 2]);
        }
        return x;
    }

    static ChairSmells house(String things, String people, int... rows) {
        return sits(Check.house(things, people), rows);
    }
}
