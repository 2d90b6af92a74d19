import java.math.BigInteger;
import java.util.ArrayList;
import java.util.HashMap;
import java.util.List;
import java.util.Map;
import java.util.TreeSet;

/**
 * The document once more, as plainly and slowly as can be: layers are lists from over all others
 * on, plans are looked for in all rows, chances are counted hour by hour in fractions.
 */
final class Model {
    static final int NONE = -1;
    final List<int[]> things = new ArrayList<>();
    final List<int[]> people = new ArrayList<>();
    List<int[]> sittings = new ArrayList<>();
    List<int[]> windows = new ArrayList<>();
    final List<int[]> smelt = new ArrayList<>();

    Model(String thingText, String peopleText) {
        for (String one : thingText.isEmpty() ? new String[0] : thingText.split(";")) {
            things.add(new int[] {one.charAt(0) - '0', one.charAt(1) - '0', "ou".indexOf(one.charAt(2))});
        }
        String[] all = peopleText.isEmpty() ? new String[0] : peopleText.split(";");
        for (int p = 0; p < all.length; p++) {
            int soap = ".abcdefgh".indexOf(all[p].charAt(2)) - 1;
            boolean there = soap >= 0 && soap < all.length;
            people.add(new int[] {all[p].charAt(0) - '0', all[p].charAt(1) - '0', there ? soap : p});
        }
    }

    /** One hour at a thing, ahead of a draught: layers are {smell, strength}. */
    private List<int[]> hourAt(List<int[]> before, int thing, int hour) {
        List<int[]> layers = new ArrayList<>();
        for (int[] layer : before) {
            int strength = Math.max(0, layer[1] - people.get(layer[0])[1]);
            if (strength != 0) {
                layers.add(new int[] {layer[0], strength});
            }
        }
        boolean over = things.get(thing)[2] == 0;
        for (int[] sitting : sittings) {
            if (sitting[0] != hour || sitting[2] != thing || sitting[1] >= people.size()) {
                continue;
            }
            int[] person = people.get(sitting[1]);
            layers.removeIf(layer -> layer[0] == person[2]);
            layers.add(over ? 0 : layers.size(), new int[] {person[2], person[0]});
            if (layers.size() > things.get(thing)[0]) {
                layers.remove(over ? layers.size() - 1 : 0);
            }
        }
        for (int[] window : windows) {
            if (window[0] == hour && window[1] == thing && !layers.isEmpty()) {
                layers.remove(0);
            }
        }
        return layers;
    }

    List<int[]> layersBehind(int thing, int hour) {
        List<int[]> layers = new ArrayList<>();
        for (int h = 0; h <= hour; h++) {
            layers = hourAt(layers, thing, h);
        }
        return layers;
    }

    private int toldOf(List<int[]> layers, int thing) {
        int bits = 0;
        for (int i = 0; i < Math.min(layers.size(), things.get(thing)[1]); i++) {
            bits |= 1 << layers.get(i)[0];
        }
        return bits;
    }

    int tells(int hour, int thing) {
        return thing >= things.size() ? 0 : toldOf(layersBehind(thing, hour), thing);
    }

    int allTell(int hour) {
        int bits = 0;
        for (int t = 0; t < things.size(); t++) {
            bits |= tells(hour, t);
        }
        return bits;
    }

    int nowhere(int hour) {
        int bits = 0;
        for (int p = 0; p < people.size(); p++) {
            int person = p;
            boolean sat = sittings.stream()
                    .anyMatch(s -> s[0] <= hour && s[1] == person && s[2] < things.size());
            if (sat && (allTell(hour) & 1 << people.get(p)[2]) == 0) {
                bits |= 1 << p;
            }
        }
        return bits;
    }

    int last(int thing, int smell) {
        int last = NONE;
        for (int h = 0; h < 24; h++) {
            if ((tells(h, thing) >> smell & 1) == 1) {
                last = h;
            }
        }
        return last;
    }

    List<Integer> together() {
        List<Integer> pairs = new ArrayList<>();
        for (int a = 0; a < 8; a++) {
            for (int b = a + 1; b < 8; b++) {
                boolean both = false;
                boolean one = false;
                for (int t = 0; t < things.size(); t++) {
                    for (int h = 0; h < 24; h++) {
                        int seen = (tells(h, t) >> a & 1) + (tells(h, t) >> b & 1);
                        both |= seen == 2;
                        one |= seen == 1;
                    }
                }
                if (both && !one) {
                    pairs.add(8 * a + b);
                }
            }
        }
        return pairs;
    }

    private interface Wish {
        boolean holds();
    }

    /** All rows of n numbers below an end, none less than the one ahead, the least first. */
    private static List<List<Integer>> rows(int n, int end) {
        List<List<Integer>> rows = new ArrayList<>();
        if (n == 0) {
            rows.add(new ArrayList<>());
            return rows;
        }
        for (int first = 0; first < end; first++) {
            for (List<Integer> rest : rows(n - 1, end)) {
                if (rest.isEmpty() || rest.get(0) >= first) {
                    List<Integer> row = new ArrayList<>();
                    row.add(first);
                    row.addAll(rest);
                    rows.add(row);
                }
            }
        }
        return rows;
    }

    private List<Integer> seats(int hour, int except, Wish wish) {
        List<int[]> told = sittings;
        List<Integer> best = null;
        for (int n = 0; n <= 2 && best == null; n++) {
            for (List<Integer> row : rows(n, 48)) {
                if (row.stream().anyMatch(code -> code % 8 == except)) {
                    continue;
                }
                sittings = new ArrayList<>(told);
                for (int code : row) {
                    sittings.add(new int[] {hour, code % 8, code / 8});
                }
                if (wish.holds()) {
                    best = row;
                    break;
                }
            }
        }
        sittings = told;
        return best;
    }

    List<Integer> hide(int person, int hour, int behind) {
        int smell = people.get(person)[2];
        return seats(hour, person, () -> (allTell(behind) >> smell & 1) == 0);
    }

    List<Integer> frame(int thing, int smells, int hour, int behind) {
        return seats(hour, NONE, () -> tells(behind, thing) == smells);
    }

    List<Integer> air(int bits, int hour, int behind) {
        List<int[]> told = windows;
        List<Integer> best = null;
        for (int n = 0; n <= 3 && best == null; n++) {
            for (List<Integer> row : rows(n, 6)) {
                windows = new ArrayList<>(told);
                for (int thing : row) {
                    windows.add(new int[] {hour, thing});
                }
                boolean nothing = true;
                for (int t = 0; t < things.size(); t++) {
                    nothing &= (bits >> t & 1) == 0 || tells(behind, t) == 0;
                }
                if (nothing) {
                    best = row;
                    break;
                }
            }
        }
        windows = told;
        return best;
    }

    int known(int hour) {
        TreeSet<Integer> ranked = new TreeSet<>();
        for (int set = 0; set < 1 << things.size(); set++) {
            int told = 0;
            for (int t = 0; t < things.size(); t++) {
                told |= (set >> t & 1) == 1 ? tells(hour, t) : 0;
            }
            if (told == allTell(hour)) {
                ranked.add(100 * Integer.bitCount(set) + set);
            }
        }
        return ranked.first() % 100;
    }

    private boolean comesOut() {
        return smelt.stream().allMatch(s -> tells(s[0], s[1]) == s[2]);
    }

    int when(int person, int thing) {
        int bits = 0;
        for (int h = 0; h < 24; h++) {
            sittings.add(new int[] {h, person, thing});
            bits |= comesOut() ? 1 << h : 0;
            sittings.remove(sittings.size() - 1);
        }
        return bits;
    }

    int who(int sitting) {
        int[] told = sittings.get(sitting);
        int bits = 0;
        for (int p = 0; p < people.size(); p++) {
            sittings.set(sitting, new int[] {told[0], p, told[2]});
            bits |= comesOut() ? 1 << p : 0;
        }
        sittings.set(sitting, told);
        return bits;
    }

    int stand(int sitting, int hour) {
        int[] told = sittings.get(sitting);
        int who = who(sitting);
        int best = NONE;
        int least = 99;
        for (int t = 0; t < things.size(); t++) {
            Map<Integer, Integer> alike = new HashMap<>();
            for (int p = 0; p < people.size(); p++) {
                if ((who >> p & 1) == 1) {
                    sittings.set(sitting, new int[] {told[0], p, told[2]});
                    alike.merge(tells(hour, t), 1, Integer::sum);
                }
            }
            int most = alike.values().stream().mapToInt(n -> n).max().orElse(0);
            if (most < least) {
                least = most;
                best = t;
            }
        }
        sittings.set(sitting, told);
        return best;
    }

    private static BigInteger[] lowest(BigInteger above, BigInteger below) {
        if (above.signum() == 0 || below.signum() == 0) {
            return new BigInteger[] {BigInteger.ZERO, BigInteger.ONE};
        }
        BigInteger common = above.gcd(below);
        return new BigInteger[] {above.divide(common), below.divide(common)};
    }

    private BigInteger weight(List<int[]> before, int[] asked, int hour) {
        int c = asked[0];
        int thing = asked[1];
        if (hour > asked[3]) {
            return BigInteger.valueOf(toldOf(before, thing) >> asked[2] & 1);
        }
        List<int[]> calm = hourAt(before, thing, hour);
        List<int[]> aired = calm.isEmpty() ? calm : calm.subList(1, calm.size());
        return weight(calm, asked, hour + 1).multiply(BigInteger.valueOf(16 - c))
                .add(weight(aired, asked, hour + 1).multiply(BigInteger.valueOf(c)));
    }

    long draughts(int c, int thing, int smell, int hour, int what) {
        BigInteger above = weight(new ArrayList<>(), new int[] {c, thing, smell, hour}, 0);
        return lowest(above, BigInteger.valueOf(16).pow(hour + 1))[what].longValueExact();
    }

    long found(int hours, int thing, int smell, int what) {
        int telling = 0;
        int all = 0;
        for (int h = 0; h < 24; h++) {
            if ((hours >> h & 1) == 1) {
                all++;
                telling += tells(h, thing) >> smell & 1;
            }
        }
        return lowest(BigInteger.valueOf(telling), BigInteger.valueOf(all))[what].longValueExact();
    }

    int day(int seed, int hour, int thing) {
        List<int[]> told = sittings;
        sittings = new ArrayList<>(told);
        int now = seed;
        for (int h = 0; h <= hour && !people.isEmpty(); h++) {
            now = now * 1103515245 + 12345;
            int person = (now >> 16 & 0xffff) % people.size();
            now = now * 1103515245 + 12345;
            sittings.add(new int[] {h, person, (now >> 16 & 0xffff) % things.size()});
        }
        int bits = tells(hour, thing);
        sittings = told;
        return bits;
    }
}
