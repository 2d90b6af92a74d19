/** Promises 30 to 37: sheets, count and digest. */
public final class SheetsTest {
    private static final Check CHECK = new Check();
    private static final int LEAST = Integer.MIN_VALUE;
    private static final int NULL = -11, INDEX = -12, CAST = -13, STORE = -14, SIZE = -15;

    public static void main(String[] args) {
        makingAndLosing();
        puttingAndGetting();
        lowestBits();
        copying();
        copyingWrong();
        writing();
        counts();
        digests();
        CHECK.end();
    }

    private static void due(String call, long got, long want) {
        CHECK.due(call, got, want);
    }

    private static void makingAndLosing() {
        ChairSmells x = new ChairSmells();
        due("sheet -1", x.sheet(-1, 0, 1), ChairSmells.BAD);
        due("sheet 4", x.sheet(4, 0, 1), ChairSmells.BAD);
        due("form -1", x.sheet(0, -1, 1), ChairSmells.BAD);
        due("form 3", x.sheet(0, 3, 1), ChairSmells.BAD);
        due("above 60", x.sheet(0, 0, 61), ChairSmells.BAD);
        due("bad ahead of size", x.sheet(0, 3, -1), ChairSmells.BAD);
        due("no finding", x.count(8), 0);
        due("below 0", x.sheet(0, 0, -1), SIZE);
        due("size", x.count(8), 5);
        due("lost yet", x.lose(0), NULL);
        due("null", x.count(8), 1);
        due("60", x.sheet(0, 0, 60), 60);
        due("0", x.sheet(3, 2, 0), 0);
        due("a size below 0 changes nothing", x.sheet(0, 1, LEAST), SIZE);
        due("lose", x.lose(0), 60);
        due("lose", x.lose(3), 0);
        due("lose again", x.lose(3), NULL);
        due("lose -1", x.lose(-1), ChairSmells.BAD);
        due("lose 4", x.lose(4), ChairSmells.BAD);
    }

    private static void puttingAndGetting() {
        ChairSmells x = new ChairSmells();
        due("put sheet", x.put(4, 0, 0, 1), ChairSmells.BAD);
        due("put sheet", x.put(-1, 0, 0, 1), ChairSmells.BAD);
        due("put form", x.put(0, 3, 0, 1), ChairSmells.BAD);
        due("put form", x.put(0, -1, 0, 1), ChairSmells.BAD);
        due("get sheet", x.get(4, 0, 0), LEAST);
        due("get form", x.get(0, 3, 0), LEAST);
        due("no finding", x.count(8), 0);
        due("put lost", x.put(0, 0, 0, 1), NULL);
        x.sheet(0, 1, 3);
        due("cast ahead of index", x.put(0, 0, 3, 1), CAST);
        due("cast", x.count(8), 3);
        due("index", x.put(0, 1, 3, 1), INDEX);
        due("index", x.put(0, 1, -1, 1), INDEX);
        due("index", x.count(8), 2);
        due("put", x.put(0, 1, 2, 77), 1);
        due("the latest finding stays", x.count(8), 2);
        due("get", x.get(0, 1, 2), 77);
        due("0 at first", x.get(0, 1, 0), 0);
        due("get lost", x.get(1, 1, 0), LEAST);
        due("null", x.count(8), 1);
        due("get cast", x.get(0, 2, 9), LEAST);
        due("cast", x.count(8), 3);
        due("get index", x.get(0, 1, 3), LEAST);
        due("index", x.count(8), 2);
        x.sheet(0, 1, 3);
        due("a new row", x.get(0, 1, 2), 0);
    }

    private static void lowestBits() {
        ChairSmells x = new ChairSmells();
        int[] values = {0, 1, -1, 127, 128, 255, 256, 32767, 32768, 65535, 65536, Integer.MAX_VALUE, LEAST, 0x12345678};
        for (int form = 0; form < 3; form++) {
            x.sheet(form, form, 1);
            for (int v : values) {
                due("put", x.put(form, form, 0, v), 1);
                due("form " + form, x.get(form, form, 0), form == 0 ? (byte) v : form == 1 ? (short) v : v);
            }
        }
    }

    private static void items(String what, ChairSmells x, int s, int form, int... want) {
        for (int i = 0; i < want.length; i++) {
            due(what + " " + i, x.get(s, form, i), want[i]);
        }
    }

    private static void copying() {
        ChairSmells x = new ChairSmells();
        Check.sheet(x, 0, 1, 1, 2, 3, 4, 5);
        Check.sheet(x, 1, 1, 9, 9, 9);
        due("copy", x.copy(0, 3, 1, 1, 2), 1);
        items("copied", x, 1, 1, 9, 4, 5);
        items("as it was", x, 0, 1, 1, 2, 3, 4, 5);
        due("none", x.copy(0, 5, 1, 3, 0), 1);
        due("upwards in itself", x.copy(0, 0, 0, 1, 4), 1);
        items("as they were", x, 0, 1, 1, 1, 2, 3, 4);
        due("downwards in itself", x.copy(0, 1, 0, 0, 4), 1);
        items("as they were", x, 0, 1, 1, 2, 3, 4, 4);
    }

    private static void copyingWrong() {
        ChairSmells x = new ChairSmells();
        due("sheets", x.copy(-1, 0, 0, 0, 0), ChairSmells.BAD);
        due("sheets", x.copy(0, 0, 4, 0, 0), ChairSmells.BAD);
        x.sheet(0, 1, 5);
        due("lost", x.copy(0, 0, 1, 0, 0), NULL);
        due("lost", x.copy(1, 0, 0, 0, 0), NULL);
        x.sheet(1, 2, 3);
        due("store ahead of index", x.copy(0, -1, 1, 0, 0), STORE);
        due("store", x.count(8), 4);
        x.sheet(1, 1, 3);
        int max = Integer.MAX_VALUE;
        int[][] wrong = {{-1, 0, 1}, {0, -1, 1}, {0, 0, -1}, {0, 0, 4}, {3, 0, 3}, {0, 2, 2}, {6, 0, 0}, {0, 4, 0},
            {1, 0, max}, {max, 0, max}, {0, max, max}, {max, 0, 0}, {LEAST, 0, LEAST}, {0, 0, LEAST}};
        for (int[] w : wrong) {
            x.lose(3);
            due("null first", x.count(8), 1);
            due("index", x.copy(0, w[0], 1, w[1], w[2]), INDEX);
            due("index", x.count(8), 2);
        }
    }

    private static void writing() {
        ChairSmells x = Check.house("55o;55o", "90.;90.;90.;90.;90.;90.;90.;90.");
        due("write lost", x.write(0, 0), NULL);
        due("thing", x.write(2, 0), ChairSmells.BAD);
        due("thing", x.write(-1, 0), ChairSmells.BAD);
        due("sheet", x.write(0, 4), ChairSmells.BAD);
        due("sheet", x.write(0, -1), ChairSmells.BAD);
        x.sit(1, 0, 0);
        x.sit(3, 7, 0);
        Check.sheet(x, 0, 2, 9, 9, 9, 9, 9);
        due("as many as there are", x.write(0, 0), 5);
        items("written", x, 0, 2, 0, 1, 1, 129, 129);
        x.sheet(1, 0, 60);
        x.put(1, 0, 24, 5);
        due("24 at most", x.write(0, 1), 24);
        items("written as bytes", x, 1, 0, 0, 1, 1, -127, -127);
        items("the rest stays", x, 1, 0, 0, 1);
        due("the rest stays", x.get(1, 0, 24), 5);
        due("to the end", x.get(1, 0, 23), -127);
        x.sheet(2, 1, 0);
        due("none", x.write(1, 2), 0);
    }

    private static void counts() {
        ChairSmells x = Check.house("55o;11u", "90.;90.;91.");
        x.sit(1, 0, 0);
        x.sit(1, 1, 0);
        x.sit(1, 2, 0);
        x.sit(1, 2, 1);
        x.sit(22, 0, 1);
        x.window(0, 3);
        x.smelt(0, 0, 0);
        int[] want = {2, 3, 7, 11, 5, 1, 1, 3, 0};
        for (int what = 0; what < want.length; what++) {
            due("count " + what, x.count(what), want[what]);
        }
        due("count -1", x.count(-1), ChairSmells.BAD);
        due("count 9", x.count(9), ChairSmells.BAD);
        x.type(0, 'x');
        due("with a fault no things", x.count(0), 0);
        due("but bytes", x.count(2), 8);
        due("and no layers", x.count(7), 0);
    }

    /** With nobody and nothing there the digest is short enough to write out. */
    private static void digests() {
        ChairSmells x = new ChairSmells();
        long[] empty = {0, 0, 0, 0, 0, 0, 0, 0, -1, -1, 0, 0, 0, 0, 0, 0, 0, 0, 0, 0, 0, 0, 0, 0, 0,
            0, -1, -2, -2, 0, -1};
        due("empty", x.digest(), fold(empty));
        x.lose(0);
        due("findings are not in it", x.digest(), fold(empty));
        Check.text(x, 0, "32u");
        long bad = Long.MIN_VALUE + 2;
        long[] thing = {1, 0, 3, 0, 0, 0, 0, 0, -1, -1, 3, 2, 1, 0, -1, -1, -2, bad, bad, bad, bad, 0,
            0, 0, 0, 0, 0, 0, 0, 0, 0, 0, 0, 0, 0, 0, 0, 0, -1, -1, -1, 0, -1};
        due("a thing and nobody", x.digest(), fold(thing));
        Check.text(x, 0, "");
        Check.text(x, 1, "59.");
        x.sit(1, 0, 0);
        long[] person = {0, 1, 0, 3, 1, 0, 0, 0, -1, -1, 5, 9, 0, 0, -1, -2,
            0, 0, 0, 0, 0, 0, 0, 0, 0, 0, 0, 0, 0, 0, 0, 1, -1, 0, -1, -2, -2, 0, -1};
        due("a person and no thing", x.digest(), fold(person));
    }

    private static long fold(long[] answers) {
        long h = 17;
        for (long answer : answers) {
            h = 31 * h + answer;
        }
        return h;
    }
}
