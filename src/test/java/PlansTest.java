/** Promises 18 to 21: hide, frame, air and known. */
public final class PlansTest {
    private static final Check CHECK = new Check();

    public static void main(String[] args) {
        hiding();
        hidingAtTwoThings();
        hidingWrong();
        framing();
        airing();
        planningWhenFull();
        known();
        CHECK.end();
    }

    private static void due(String call, long got, long want) {
        CHECK.due(call, got, want);
    }

    private static void hide(String what, ChairSmells x, int[] asked, int... row) {
        due(what + ": how many", x.hide(asked[0], asked[1], asked[2], -1), row.length);
        for (int i = 0; i < 2; i++) {
            due(what + ": " + i, x.hide(asked[0], asked[1], asked[2], i), i < row.length ? row[i] : -1);
        }
    }

    private static void noHide(String what, ChairSmells x, int... asked) {
        for (int i = -1; i < 2; i++) {
            due(what, x.hide(asked[0], asked[1], asked[2], i), ChairSmells.NONE);
        }
    }

    private static int[] of(int... numbers) {
        return numbers;
    }

    private static void hiding() {
        ChairSmells x = Check.house("11o;22o;33o", "90.;11.;90.;90a");
        hide("nothing tells", x, of(0, 1, 1));
        x.sit(1, 0, 0);
        hide("the least other one", x, of(0, 2, 2), 1);
        hide("who is gone by then, but took its place", x, of(0, 2, 5), 1);
        hide("in the same hour, behind all others", x, of(0, 1, 1), 1);
        noHide("behind an hour ahead", x, 0, 2, 1);
        hide("the smell of another's soap", x, of(3, 2, 5), 1);
        x.back(0);
        x.sit(1, 0, 1);
        hide("two, the least row", x, of(0, 2, 2), 9, 10);
        x.back(0);
        x.sit(1, 0, 2);
        noHide("three would do", x, 0, 2, 2);
        ChairSmells y = Check.house("21o", "90.;11.;90.;90a");
        y.sit(1, 0, 0);
        hide("over it in that hour", y, of(0, 2, 2), 1);
        hide("whose smell stays over it", y, of(0, 2, 3), 2);
        Check.text(y, 1, "90.;90a");
        noHide("by the told one itself, or one who smells so", y, 0, 2, 3);
    }

    private static void hidingAtTwoThings() {
        ChairSmells x = Check.house("11o;22o;11u", "90.;90.;90.");
        x.sit(1, 0, 0);
        x.sit(1, 0, 2);
        hide("one at each", x, of(0, 2, 2), 1, 17);
        x.sit(1, 0, 1);
        noHide("too many", x, 0, 2, 2);
        ChairSmells y = Check.house("11o;11o;11o", "90.;90.");
        y.sit(1, 0, 0);
        y.sit(1, 0, 1);
        y.sit(1, 0, 2);
        noHide("one too many", y, 0, 2, 2);
    }

    private static void hidingWrong() {
        ChairSmells x = Check.house("11o", "90.;90.");
        due("person", x.hide(2, 0, 0, 0), ChairSmells.BAD);
        due("person", x.hide(-1, 0, 0, 0), ChairSmells.BAD);
        due("hour", x.hide(0, 24, 0, 0), ChairSmells.BAD);
        due("hour", x.hide(0, -1, 0, 0), ChairSmells.BAD);
        due("behind", x.hide(0, 0, 24, 0), ChairSmells.BAD);
        due("behind", x.hide(0, 0, -1, 0), ChairSmells.BAD);
        due("i", x.hide(0, 0, 0, 2), ChairSmells.BAD);
        due("i", x.hide(0, 0, 0, -2), ChairSmells.BAD);
        due("nothing there tells of nobody", Check.house("", "90.").hide(0, 0, 0, -1), 0);
    }

    private static void framing() {
        ChairSmells x = Check.house("22o;33u", "90.;90.;90.;91a");
        x.sit(1, 0, 0);
        x.sit(1, 2, 0);
        due("as it is", x.frame(0, 5, 2, 3, -1), 0);
        due("as it is", x.frame(0, 5, 2, 3, 0), ChairSmells.NONE);
        due("one", x.frame(0, 6, 2, 3, -1), 1);
        due("one", x.frame(0, 6, 2, 3, 0), 1);
        due("two", x.frame(0, 3, 2, 3, -1), 2);
        due("two, the least first", x.frame(0, 3, 2, 3, 0), 0);
        due("two, the least first", x.frame(0, 3, 2, 3, 1), 1);
        due("the other thing", x.frame(1, 5, 2, 3, 0), 8);
        due("the other thing", x.frame(1, 5, 2, 3, 1), 10);
        due("three", x.frame(1, 7, 2, 3, -1), ChairSmells.NONE);
        due("nothing", x.frame(0, 0, 2, 3, 0), ChairSmells.NONE);
        due("nobody smells so", x.frame(0, 8, 2, 3, -1), ChairSmells.NONE);
        due("nobody smells so", x.frame(0, 255, 2, 3, -1), ChairSmells.NONE);
        due("too late", x.frame(0, 6, 3, 2, -1), ChairSmells.NONE);
        due("thing", x.frame(2, 5, 2, 3, -1), ChairSmells.BAD);
        due("thing", x.frame(-1, 5, 2, 3, -1), ChairSmells.BAD);
        due("smells", x.frame(0, -1, 2, 3, -1), ChairSmells.BAD);
        due("smells", x.frame(0, 256, 2, 3, -1), ChairSmells.BAD);
        due("hour", x.frame(0, 5, 24, 3, -1), ChairSmells.BAD);
        due("behind", x.frame(0, 5, 2, -1, -1), ChairSmells.BAD);
        due("i", x.frame(0, 5, 2, 3, 2), ChairSmells.BAD);
        due("i", x.frame(0, 5, 2, 3, -2), ChairSmells.BAD);
    }

    private static void air(String what, ChairSmells x, int[] asked, int... row) {
        due(what + ": how many", x.air(asked[0], asked[1], asked[2], -1), row.length);
        for (int i = 0; i < 3; i++) {
            due(what + ": " + i, x.air(asked[0], asked[1], asked[2], i), i < row.length ? row[i] : -1);
        }
    }

    private static void airing() {
        ChairSmells x = Check.house("51o;51u;51o", "90.;90.;90.;90.");
        for (int p = 0; p < 3; p++) {
            x.sit(1, p, 0);
        }
        x.sit(1, 0, 1);
        x.sit(1, 0, 2);
        x.sit(1, 1, 2);
        air("no things", x, of(0, 2, 2));
        air("things that are not there", x, of(56, 2, 2));
        air("every layer, not the told one alone", x, of(1, 2, 2), 0, 0, 0);
        air("two things, the least row", x, of(6, 2, 2), 1, 2, 2);
        air("in the same hour", x, of(6, 1, 1), 1, 2, 2);
        air("ahead of the sittings", x, of(2, 0, 0));
        x.sit(1, 3, 0);
        for (int i = -1; i < 3; i++) {
            due("four would do", x.air(1, 2, 2, i), ChairSmells.NONE);
            due("four would do", x.air(7, 2, 2, i), ChairSmells.NONE);
            due("too late", x.air(2, 3, 2, i), ChairSmells.NONE);
        }
        x.window(2, 0);
        air("behind those that were told", x, of(1, 2, 2), 0, 0, 0);
        due("things", x.air(-1, 2, 2, -1), ChairSmells.BAD);
        due("things", x.air(64, 2, 2, -1), ChairSmells.BAD);
        due("hour", x.air(1, -1, 2, -1), ChairSmells.BAD);
        due("behind", x.air(1, 2, 24, -1), ChairSmells.BAD);
        due("i", x.air(1, 2, 2, 3), ChairSmells.BAD);
        due("i", x.air(1, 2, 2, -2), ChairSmells.BAD);
    }

    private static void planningWhenFull() {
        ChairSmells x = Check.house("22o", "90.;90.;90.");
        for (int n = 0; n < 20; n++) {
            x.sit(1, n % 3, 0);
        }
        for (int n = 0; n < 8; n++) {
            x.window(23, 5);
        }
        hide("with 20 sittings", x, of(1, 2, 2), 0, 2);
        air("with 8 windows", x, of(1, 2, 2), 0, 0);
        due("none is left behind", x.count(4), 20);
        due("none is left behind", x.count(5), 8);
    }

    private static void known() {
        ChairSmells x = Check.house("55o;55o;55o", "90.;90.;90.");
        due("nothing to know", x.known(0), 0);
        x.sit(1, 0, 0);
        x.sit(1, 1, 1);
        due("both", x.known(1), 3);
        x.sit(2, 0, 2);
        x.sit(2, 1, 2);
        due("one for all", x.known(2), 4);
        x.sit(3, 2, 1);
        due("the least of like ones", x.known(3), 3);
        x.sit(4, 0, 1);
        due("one again", x.known(4), 2);
        due("hour", x.known(-1), ChairSmells.BAD);
        due("hour", x.known(24), ChairSmells.BAD);
    }
}
