import java.util.ArrayList;
import java.util.List;
import java.util.NoSuchElementException;

/** Long rows of calls, each answered by FirstComer and by the plain Model alike. */
public final class ModelTest {
    private static final long THROWN = Long.MIN_VALUE;
    private static final int NEVER = Integer.MIN_VALUE;
    private final Laws dice;
    private final FirstComer x = new FirstComer();
    private final Model m = new Model();
    private final List<String> told = new ArrayList<>();
    private final int[] asked = {NEVER, 0, 0, 0, 0};
    private final int kind;
    private int calls;
    private boolean wrong;

    private ModelTest(long seed) {
        dice = new Laws(seed);
        kind = dice.below(4);
    }

    public static void main(String[] args) {
        int runs = args.length > 0 ? Integer.parseInt(args[0]) : 400;
        int from = args.length > 1 ? Integer.parseInt(args[1]) : 1;
        int failed = 0;
        for (int i = from; i < from + runs && failed < 3; i++) {
            ModelTest t = new ModelTest(i);
            t.run();
            if (t.wrong) {
                failed++;
                System.out.println("seed " + i + ":");
                for (String call : t.told) {
                    System.out.println("  " + call);
                }
            }
        }
        System.out.println("ModelTest: " + (runs - failed) + " passed, " + failed + " failed");
        if (failed > 0) {
            System.exit(1);
        }
    }

    private void due(String call, long got, long want) {
        calls++;
        told.add(call + " = " + got);
        if (got != want) {
            wrong = true;
            told.add("  but due is " + want);
        }
    }

    private void due(String call, boolean got, boolean want) {
        due(call, got ? 1 : 0, want ? 1 : 0);
    }

    private int person() {
        return dice.chance(2) ? dice.below(40) - 20 : dice.below(kind == 0 ? 16 : 7);
    }

    private int parcel() {
        return dice.chance(2) ? dice.below(40) - 20 : dice.below(kind == 1 ? 12 : 5);
    }

    private int twelfths() {
        return dice.chance(2) ? dice.below(30) - 10 : dice.chance(40) ? 12 : 1 + dice.below(12);
    }

    private int each() {
        return dice.chance(2) ? 790 + dice.below(20) : dice.chance(1) ? -1 : dice.below(dice.chance(70) ? 4 : 800);
    }

    private int passing() {
        return dice.chance(3) ? dice.below(50) - 3 : m.passings.isEmpty() ? 0 : dice.below(m.passings.size());
    }

    private int seller(int parcel) {
        if (parcel < 0 || parcel > 11 || dice.chance(8)) {
            return person();
        }
        int first = dice.below(16);
        for (int i = 0; i < 16; i++) {
            if (m.held[parcel][(first + i) % 16] > 0) {
                return (first + i) % 16;
            }
        }
        return person();
    }

    private void run() {
        int parcels = 2 + dice.below(kind == 1 ? 11 : 4);
        for (int i = 0; i < parcels; i++) {
            tellParcel(i, dice.below(7));
        }
        for (int i = 0; i < 6; i++) {
            place();
        }
        if (dice.chance(80)) {
            settle(parcels);
        }
        tellLaw();
        while (calls < 510 && !wrong) {
            step();
        }
    }

    /** Neighbours and kin for all, so that somebody may come first nearly everywhere. */
    private void settle(int parcels) {
        for (int i = 0; i < parcels; i++) {
            int o = dice.below(parcels);
            int s = dice.below(4);
            due("beside(" + i + ", " + o + ", " + s + ")", x.beside(i, o, s), m.beside(i, o, s));
            int w = dice.below(parcels);
            due("water(" + i + ", " + w + ")", x.water(i, w), m.water(i, w));
        }
        for (int i = 0; i < 7; i++) {
            int b = dice.below(7);
            int d = dice.below(4);
            due("kin(" + i + ", " + b + ", " + d + ")", x.kin(i, b, d), m.kin(i, b, d));
            int p = dice.below(parcels);
            int from = seller(p);
            int n = 1 + dice.below(4);
            if (dice.chance(60)) {
                due("part(" + p + ", " + from + ", " + i + ", " + n + ")", x.part(p, from, i, n), m.part(p, from, i, n));
            }
        }
    }

    private void step() {
        int roll = dice.below(100);
        if (roll < 14) {
            place();
        } else if (roll < 19) {
            tellLaw();
        } else if (roll < 26) {
            pass(false);
        } else if (roll < 33) {
            pass(true);
        } else if (roll < 78) {
            afterwards(roll);
        } else if (roll < 83) {
            marks();
        } else {
            ways(roll);
        }
    }

    private void tellParcel(int p, int owner) {
        due("parcel(" + p + ", " + owner + ")", x.parcel(p, owner), m.parcel(p, owner));
    }

    private void place() {
        int p = parcel();
        int a = person();
        int b = person();
        int n = twelfths();
        boolean yes = dice.chance(50);
        switch (dice.below(9)) {
            case 0:
                tellParcel(p, a);
                break;
            case 1: {
                int from = seller(p);
                due("part(" + p + ", " + from + ", " + a + ", " + n + ")", x.part(p, from, a, n), m.part(p, from, a, n));
                break;
            }
            case 2: {
                int o = parcel();
                int s = dice.chance(3) ? dice.below(9) - 3 : dice.below(4);
                due("beside(" + p + ", " + o + ", " + s + ")", x.beside(p, o, s), m.beside(p, o, s));
                break;
            }
            case 3: {
                int o = parcel();
                due("water(" + p + ", " + o + ")", x.water(p, o), m.water(p, o));
                break;
            }
            case 4: {
                int d = dice.chance(3) ? dice.below(9) - 3 : dice.below(4);
                due("kin(" + a + ", " + b + ", " + d + ")", x.kin(a, b, d), m.kin(a, b, d));
                break;
            }
            case 5:
                due("need(" + a + ", " + yes + ")", x.need(a, yes), m.need(a, yes));
                break;
            case 6:
                due("care(" + a + ", " + yes + ")", x.care(a, yes), m.care(a, yes));
                break;
            case 7: {
                int d = dice.chance(4) ? dice.below(3000) - 900 : dice.below(6);
                due("days(" + d + ")", x.days(d), m.days(d));
                break;
            }
            default: {
                int f = dice.chance(3) ? dice.below(9) - 3 : dice.below(3);
                int price = f == 1 && dice.chance(95) ? 0 : price();
                int from = seller(p);
                if (dice.chance(40)) {
                    due("honest(" + p + ", " + from + ", " + a + ", " + n + ", " + f + ", " + price + ")", x.honest(p, from, a, n, f, price), m.honest(p, from, a, n, f, price));
                }
                break;
            }
        }
    }

    private int price() {
        return dice.chance(3) ? dice.below(20000) - 5000 : dice.below(dice.chance(60) ? 14 : 200);
    }

    private void tellLaw() {
        String text = dice.law(dice.chance(5) ? 22 : dice.chance(60) ? 4 : 9);
        if (dice.chance(25)) {
            text = dice.spoilt(text);
        }
        feed(text);
        due("law() of " + text, x.law(), m.law());
    }

    private void feed(String text) {
        for (int at = 0; at < text.length() && at < 1030; at += 24) {
            long[] abc = new long[3];
            for (int i = 0; i < 24; i++) {
                int sign = at + i < text.length() ? text.charAt(at + i) : dice.chance(50) ? 0 : 127 + dice.below(129);
                abc[i / 8] = abc[i / 8] << 8 | sign;
            }
            due("feed(" + abc[0] + ", " + abc[1] + ", " + abc[2] + ")", x.feed(abc[0], abc[1], abc[2]), m.feed(abc[0], abc[1], abc[2]));
        }
    }

    private void pass(boolean only) {
        int p = parcel();
        int from = seller(p);
        int to = person();
        int n = dice.chance(50) ? Math.max(1, m.holds(p, from)) : twelfths();
        int f = dice.chance(2) ? dice.below(9) - 3 : dice.below(3);
        int price = f == 1 && dice.chance(95) ? 0 : price();
        int paid = f == 1 && dice.chance(95) ? 0 : price();
        String args = "(" + p + ", " + from + ", " + to + ", " + n + ", " + f + ", " + price + ", " + paid + ")";
        due("would" + args, x.would(p, from, to, n, f, price, paid), m.would(p, from, to, n, f, price, paid));
        if (!only) {
            due("pass" + args, x.pass(p, from, to, n, f, price, paid), m.pass(p, from, to, n, f, price, paid));
        }
    }

    private int comer(int i) {
        int o = m.order(i, dice.below(3));
        return o >= 0 && dice.chance(80) ? o : person();
    }

    private void afterwards(int roll) {
        int i = passing();
        int a = comer(i);
        if (roll < 37) {
            int what = dice.below(dice.chance(5) ? 20 : 12) - (dice.chance(3) ? 4 : 0);
            due("look(" + i + ", " + what + ")", looked(i, what), modelled(i, what));
        } else if (roll < 41) {
            due("may(" + i + ", " + a + ")", x.may(i, a), m.may(i, a));
        } else if (roll < 45) {
            int k = dice.below(8) - 1;
            due("order(" + i + ", " + k + ")", x.order(i, k), m.order(i, k));
        } else if (roll < 50) {
            int d = dice.chance(50) ? m.now : m.now - dice.below(12) + 1;
            due("hears(" + i + ", " + a + ", " + d + ")", x.hears(i, a, d), m.hears(i, a, d));
        } else if (roll < 53) {
            due("till(" + i + ", " + a + ")", x.till(i, a), m.till(i, a));
        } else if (roll < 56) {
            due("waive(" + i + ", " + a + ")", x.waive(i, a), m.waive(i, a));
        } else if (roll < 59) {
            int paid = price();
            due("truly(" + i + ", " + paid + ")", x.truly(i, paid), m.truly(i, paid));
        } else if (roll < 65) {
            int coin = dice.chance(50) ? 9999 : price();
            due("claim(" + i + ", " + a + ", " + coin + ")", x.claim(i, a, coin), m.claim(i, a, coin));
        } else if (roll < 70) {
            due("parted(" + i + ", " + a + ")", x.parted(i, a), m.parted(i, a));
        } else if (roll < 73) {
            int what = dice.below(12) - 2;
            due("count(" + what + ")", x.count(what), m.count(what));
        } else {
            int p = parcel();
            int b = person();
            due("holds(" + p + ", " + b + ")", x.holds(p, b), m.holds(p, b));
            due("stands(" + p + ", " + a + ", " + b + ")", x.stands(p, a, b), m.stands(p, a, b));
        }
    }

    private long looked(int i, int what) {
        try {
            return x.look(i, what);
        } catch (NoSuchElementException e) {
            return THROWN;
        }
    }

    private long modelled(int i, int what) {
        try {
            return m.look(i, what);
        } catch (NoSuchElementException e) {
            return THROWN;
        }
    }

    private void marks() {
        int k = dice.chance(4) ? dice.below(12) - 4 : dice.below(4);
        boolean back = dice.chance(40);
        due("mark(" + k + ", " + back + ")", x.mark(k, back), m.mark(k, back));
        for (int p = 0; p < 12 && back; p++) {
            for (int a = 0; a < 3; a++) {
                due("holds(" + p + ", " + a + ")", x.holds(p, a), m.holds(p, a));
            }
        }
    }

    /** Often the same question again, for what is kept of an answer must go with what has changed. */
    private void ways(int roll) {
        if (asked[0] == NEVER || dice.chance(50)) {
            asked[0] = parcel();
            asked[1] = seller(asked[0]);
            asked[2] = person();
            asked[3] = each();
            asked[4] = dice.chance(5) ? dice.below(20) - 5 : 1 + dice.below(9);
        }
        int p = asked[0];
        int o = asked[1];
        int s = asked[2];
        int e = asked[3];
        String args = "(" + p + ", " + o + ", " + s + ", " + e;
        if (roll < 90) {
            int length = m.sly(p, o, s, e);
            due("sly" + args + ")", x.sly(p, o, s, e), length);
            for (int i = -1; i <= Math.min(length, 5); i++) {
                for (int what = i < 0 ? 2 : 0; what < (i == length ? 1 : 3); what++) {
                    due("slyRow" + args + ", " + i + ", " + what + ")", x.slyRow(p, o, s, e, i, what), m.slyRow(p, o, s, e, i, what));
                }
            }
        } else if (roll < 95) {
            int y = asked[4];
            for (int what = 0; what < 3; what++) {
                due("far(" + s + ", " + y + ", " + e + ", " + what + ")", x.far(s, y, e, what), m.far(s, y, e, what));
            }
        } else {
            int what = dice.chance(4) ? dice.below(9) - 3 : dice.below(2);
            due("mended" + args + ", " + what + ")", x.mended(p, o, s, e, what), m.mended(p, o, s, e, what));
        }
    }
}
