import java.util.ArrayList;
import java.util.List;

/** A village in the midst of things, and all that can be asked of one, so that a refused call can be seen to change nothing. */
final class Midst {
    // With the calls that made the village all stay under the 512 that an object is used for.
    private static final int MOST_ANSWERS = 440;
    private static final int[] MARKED = {0, 1, 2, 11};
    private final FirstComer x;
    private final List<String> answers = new ArrayList<>();

    private Midst(FirstComer x) {
        this.x = x;
    }

    /** Parcel 5 is not told, parcel 11 is all of person 15; persons 5 and 14 hold nothing; passing 1 is taken; marks 0 and 2 are laid. */
    static FirstComer village() {
        FirstComer x = new FirstComer();
        int[] owners = {0, 1, 2, 3, 0};
        for (int i = 0; i < owners.length; i++) {
            x.parcel(i, owners[i]);
        }
        x.parcel(11, 15);
        x.part(0, 0, 6, 3);
        x.part(1, 1, 7, 5);
        x.beside(0, 1, 0);
        x.beside(0, 2, 3);
        x.water(0, 3);
        x.water(2, 11);
        x.kin(0, 8, 1);
        x.kin(0, 9, 2);
        x.kin(1, 8, 3);
        x.need(9, true);
        x.care(3, false);
        x.days(5);
        Told.law(x, "price paid;parts shares;first kin on sale within 4 when degree<2 or need;first side on sale gift within 2;"
                + "maybe first water on sale gift swap within 9;free when 500<price;");
        x.pass(0, 0, 10, 2, Told.SALE, 30, 20);
        x.pass(2, 2, 12, 5, Told.GIFT, 0, 0);
        x.pass(1, 1, 8, 2, Told.SALE, 7, 6);
        x.pass(3, 3, 12, 1, Told.SALE, 600, 600);
        x.days(3);
        x.hears(0, 8, 6);
        x.hears(0, 1, 7);
        x.waive(0, 9);
        x.truly(0, 25);
        x.mark(0, false);
        x.claim(1, 0, 0);
        x.days(1);
        x.mark(2, false);
        x.honest(2, 2, 6, 1, Told.SALE, 5);
        x.honest(11, 15, 2, 12, Told.GIFT, 0);
        Told.feed(x, "free when n<");
        return x;
    }

    /** Asks for all there is; the last questions change the village, so it is of no use behind them. */
    static List<String> view(FirstComer x) {
        Midst m = new Midst(x);
        m.askVillage();
        int passings = x.count(2);
        for (int i = Math.max(0, passings - 4); i < passings; i++) {
            m.askPassing(i);
        }
        m.askWays();
        for (int i = Math.max(0, passings - 4); i < passings; i++) {
            m.tryPassing(i);
        }
        m.tryRest();
        m.goBack();
        return m.answers;
    }

    private void tell(String call, long answer) {
        answers.add(call + " = " + answer);
        if (answers.size() > MOST_ANSWERS) {
            throw new IllegalStateException("too many questions");
        }
    }

    private void tell(String call, boolean answer) {
        tell(call, answer ? 1 : 0);
    }

    private void askVillage() {
        for (int what = 0; what < 8; what++) {
            tell("count(" + what + ")", x.count(what));
        }
        for (int parcel = 0; parcel < 12; parcel++) {
            for (int person = 0; person < (parcel < 5 || parcel == 11 ? 16 : 1); person++) {
                tell("holds(" + parcel + ", " + person + ")", x.holds(parcel, person));
            }
        }
        for (int person = 0; person < 16; person++) {
            tell("stands(0, 0, " + person + ")", x.stands(0, 0, person));
            tell("stands(2, 1, " + person + ")", x.stands(2, 1, person));
        }
        for (int buyer = 0; buyer < 16; buyer += 3) {
            tell("would(0, 0, " + (14 - buyer) + ", 1, 0, 5, 5)", x.would(0, 0, 14 - buyer, 1, Told.SALE, 5, 5));
        }
    }

    private void askPassing(int i) {
        for (int what = 0; what < 12; what++) {
            tell("look(" + i + ", " + what + ")", Sheet.look(x, i, what));
        }
        for (int person = 0; person < 16; person++) {
            tell("may(" + i + ", " + person + ")", x.may(i, person));
        }
        for (int k = 0; k < 5; k++) {
            int comer = x.order(i, k);
            tell("order(" + i + ", " + k + ")", comer);
            if (comer >= 0) {
                tell("till(" + i + ", " + comer + ")", x.till(i, comer));
                tell("parted(" + i + ", " + comer + ")", x.parted(i, comer));
            }
        }
    }

    private void askWays() {
        tell("sly(0, 0, 5, 1)", x.sly(0, 0, 5, 1));
        for (int what = 0; what < 3; what++) {
            tell("slyRow(0, 0, 5, 1, 0, " + what + ")", x.slyRow(0, 0, 5, 1, 0, what));
            tell("far(5, 9, 1, " + what + ")", x.far(5, 9, 1, what));
        }
        tell("mended(0, 0, 5, 1, 0)", x.mended(0, 0, 5, 1, 0));
        tell("mended(0, 0, 5, 1, 1)", x.mended(0, 0, 5, 1, 1));
    }

    private void tryPassing(int i) {
        int day = x.look(i, 7);
        for (int person = 0; person < 10; person++) {
            tell("hears(" + i + ", " + person + ")", x.hears(i, person, day));
        }
        for (int k = 0; k < 3; k++) {
            int comer = x.order(i, k);
            tell("waive(" + i + ", " + comer + ")", x.waive(i, comer));
        }
        tell("truly(" + i + ", 1)", x.truly(i, 1));
        tell("claim(" + i + ", 7, 0)", x.claim(i, 7, 0));
    }

    private void tryRest() {
        tell("law()", x.law());
        for (int i = 0; i < 5; i++) {
            tell("honest(0, 0, 1, 1, 0, 1)", x.honest(0, 0, 1, 1, Told.SALE, 1));
        }
        for (int side = 0; side < 4; side++) {
            tell("beside(0, 1, " + side + ")", x.beside(0, 1, side));
        }
        tell("water(3, 0)", x.water(3, 0));
        tell("parcel(5, 5)", x.parcel(5, 5));
        tell("days(0)", x.days(0));
    }

    private void goBack() {
        for (int mark = 3; mark >= 0; mark--) {
            tell("mark(" + mark + ", true)", x.mark(mark, true));
            tell("count(1)", x.count(1));
            tell("count(2)", x.count(2));
            for (int parcel : MARKED) {
                tell("holds(" + parcel + ", 0)", x.holds(parcel, 0));
            }
        }
    }
}
