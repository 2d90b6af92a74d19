import java.util.Objects;

/** Counts answers that are not as due, and types texts and sheets for the tests. */
final class Check {
    private int wrong = 0;

    void due(String call, long got, long want) {
        if (got != want) {
            wrong++;
            System.out.println(call + " answered " + got + ", due is " + want);
        }
    }

    void same(String what, Object got, Object want) {
        if (!Objects.equals(got, want)) {
            wrong++;
            System.out.println(what + ": " + got + ", due is " + want);
        }
    }

    boolean hasWrong() {
        return wrong > 0;
    }

    void end() {
        if (wrong > 0) {
            System.out.println(wrong + " answers are not as due");
            System.exit(1);
        }
    }

    static void text(ChairSmells x, int text, String signs) {
        x.wipe(text);
        for (int i = 0; i < signs.length(); i++) {
            x.type(text, signs.charAt(i));
        }
    }

    static ChairSmells house(String things, String people) {
        ChairSmells x = new ChairSmells();
        text(x, 0, things);
        text(x, 1, people);
        return x;
    }

    static void sheet(ChairSmells x, int s, int form, int... items) {
        x.sheet(s, form, items.length);
        for (int i = 0; i < items.length; i++) {
            x.put(s, form, i, items[i]);
        }
    }
}
