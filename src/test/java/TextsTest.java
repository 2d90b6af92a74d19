/** Promises 1 to 7: a new object, texts, things and people. */
public final class TextsTest {
    private static final Check CHECK = new Check();

    public static void main(String[] args) {
        aNewObject();
        typing();
        wipingAndUndoing();
        faultsOfThings();
        faultsOfPeople();
        thingsAndPeople();
        soap();
        CHECK.end();
    }

    private static void due(String call, long got, long want) {
        CHECK.due(call, got, want);
    }

    private static void aNewObject() {
        ChairSmells x = new ChairSmells();
        for (int what = 0; what <= 8; what++) {
            due("new count " + what, x.count(what), 0);
        }
        for (int s = 0; s < 4; s++) {
            due("new lose " + s, x.lose(s), -11);
        }
        due("new fault", x.fault(0), ChairSmells.NONE);
        due("new fault", x.fault(1), ChairSmells.NONE);
        due("new forget", x.forget(), 0);
    }

    private static void typing() {
        ChairSmells x = new ChairSmells();
        due("type text -1", x.type(-1, 49), ChairSmells.BAD);
        due("type text 2", x.type(2, 49), ChairSmells.BAD);
        due("type byte -1", x.type(0, -1), ChairSmells.BAD);
        due("type byte 256", x.type(0, 256), ChairSmells.BAD);
        due("nothing was typed", x.count(2) + x.count(3), 0);
        due("type 0", x.type(0, 0), 1);
        due("type 255", x.type(0, 255), 2);
        for (int n = 3; n <= 23; n++) {
            due("type to " + n, x.type(0, 59), n);
        }
        due("type 24th", x.type(0, 59), ChairSmells.FULL);
        due("a bad byte is bad first", x.type(0, 256), ChairSmells.BAD);
        due("bytes", x.count(2), 23);
        for (int n = 1; n <= 31; n++) {
            due("type people to " + n, x.type(1, 59), n);
        }
        due("type 32nd", x.type(1, 59), ChairSmells.FULL);
        due("bytes", x.count(3), 31);
    }

    private static void wipingAndUndoing() {
        ChairSmells x = Check.house("32o", "51.;30.");
        due("wipe bad", x.wipe(2), ChairSmells.BAD);
        due("undo bad", x.undo(-1), ChairSmells.BAD);
        due("undo", x.undo(0), 2);
        due("no thing with a fault", x.count(0), 0);
        due("type", x.type(0, 'u'), 3);
        due("under", x.thing(0, 2), 1);
        due("wipe", x.wipe(1), 7);
        due("wipe empty", x.wipe(1), 0);
        due("undo empty", x.undo(1), ChairSmells.NOT);
        due("the other stays", x.count(2), 3);
        due("people are gone", x.count(1), 0);
    }

    private static void fault(int text, String signs, int want) {
        ChairSmells x = new ChairSmells();
        Check.text(x, text, signs);
        due("fault of " + signs, x.fault(text), want);
        due("entries of " + signs, x.count(text), want == ChairSmells.NONE ? (signs.length() + 1) / 4 : 0);
    }

    private static void faultsOfThings() {
        due("fault bad", new ChairSmells().fault(2), ChairSmells.BAD);
        due("fault bad", new ChairSmells().fault(-1), ChairSmells.BAD);
        fault(0, "", ChairSmells.NONE);
        fault(0, "1", 1);
        fault(0, "11", 2);
        fault(0, "11o", ChairSmells.NONE);
        fault(0, "55u", ChairSmells.NONE);
        fault(0, "11o;", 4);
        fault(0, ";", 0);
        fault(0, "01o", 0);
        fault(0, "61o", 0);
        fault(0, "10o", 1);
        fault(0, "16o", 1);
        fault(0, "11O", 2);
        fault(0, "11.", 2);
        fault(0, "11o,11o", 3);
        fault(0, "11o;;", 4);
        fault(0, "11o;11", 6);
        fault(0, "11o;1xo", 5);
        fault(0, "11o;22u;33o;44u;55o;15u", ChairSmells.NONE);
    }

    private static void faultsOfPeople() {
        fault(1, "10.", ChairSmells.NONE);
        fault(1, "99h", ChairSmells.NONE);
        fault(1, "9", 1);
        fault(1, "00.", 0);
        fault(1, ":0.", 0);
        fault(1, "1/.", 1);
        fault(1, "1:.", 1);
        fault(1, "10`", 2);
        fault(1, "10i", 2);
        fault(1, "10A", 2);
        fault(1, "10.;10", 6);
        fault(1, "10.;10.;", 8);
        fault(1, "10a;11b;12c;13d;14e;15f;16g;17h", ChairSmells.NONE);
    }

    private static void thingsAndPeople() {
        ChairSmells x = Check.house("32o;15u", "51.;39.");
        int[][] things = {{3, 2, 0}, {1, 5, 1}};
        int[][] people = {{5, 1, 0}, {3, 9, 1}};
        for (int it = 0; it < 2; it++) {
            for (int what = 0; what < 3; what++) {
                due("thing", x.thing(it, what), things[it][what]);
                due("person", x.person(it, what), people[it][what]);
            }
        }
        due("thing 2", x.thing(2, 0), ChairSmells.BAD);
        due("thing -1", x.thing(-1, 0), ChairSmells.BAD);
        due("thing what 3", x.thing(0, 3), ChairSmells.BAD);
        due("thing what -1", x.thing(0, -1), ChairSmells.BAD);
        due("person 2", x.person(2, 0), ChairSmells.BAD);
        due("person -1", x.person(-1, 0), ChairSmells.BAD);
        due("person what 3", x.person(0, 3), ChairSmells.BAD);
        due("person what -1", x.person(0, -1), ChairSmells.BAD);
        x.type(0, ';');
        due("with a fault as if empty", x.thing(0, 0), ChairSmells.BAD);
        x.undo(0);
        due("without it as before", x.thing(0, 0), 3);
    }

    private static void soap() {
        ChairSmells x = Check.house("32o", "51b;39a;40c;40h");
        due("another's soap", x.person(0, 2), 1);
        due("another's soap", x.person(1, 2), 0);
        due("its own soap", x.person(2, 2), 2);
        due("soap of one who is not there", x.person(3, 2), 3);
        Check.text(x, 1, "51b;31c;40.");
        due("soap of one with a soap is that one's number", x.person(0, 2), 1);
    }
}
