import java.util.function.Supplier;

/** Boundary cases of promises 25 to 29: sly rows, how far a stranger comes, honest passings, and what mends a law. */
public final class WaysEdgesTest {
    private static final int SALE = Told.SALE;
    private static final int GIFT = Told.GIFT;
    private static final int SWAP = Told.SWAP;
    private static final String ALL = " on sale gift swap within 1";
    private static final Sheet sheet = new Sheet(WaysEdgesTest.class);

    /** sly(), slyRow() or mended(), the last two with all else told. */
    private interface Round {
        int on(FirstComer x, int parcel, int owner, int stranger, int each);
    }

    public static void main(String[] args) {
        sheet.run();
    }

    /** The row is this one: parcel, n, form of each passing; none if nothing is told. */
    private static void rowIs(FirstComer x, int parcel, int owner, int stranger, int each, int... row) {
        int length = row.length / 3;
        sheet.due("sly", x.sly(parcel, owner, stranger, each), length == 0 ? -1 : length);
        for (int i = 0; i < row.length; i++) {
            sheet.due("slyRow, " + i / 3 + ", " + i % 3, x.slyRow(parcel, owner, stranger, each, i / 3, i % 3), row[i]);
        }
        for (int what = 0; what < 3; what++) {
            sheet.due("slyRow behind its end", x.slyRow(parcel, owner, stranger, each, length, what), -1);
        }
    }

    /** A village whose person 6 is kin of person 0, so that the law may stop what person 0 passes. */
    private static FirstComer kin(int parcels, String law) {
        FirstComer x = Told.parcels(parcels, law);
        x.kin(0, 6, 1);
        return x;
    }

    /** What is refused of all three alike; the village is one of a single parcel where it is not refused. */
    private static void refusesRound(String name, Supplier<FirstComer> village, Round round) {
        for (int parcel : Sheet.NO_PARCELS) {
            sheet.refused(name + " of parcel " + parcel, -1, v -> round.on(v, parcel, 0, 5, 1));
        }
        sheet.refused(name + " of parcel 5, not told", -1, v -> round.on(v, 5, 0, 5, 1));
        for (int person : Sheet.NO_PEOPLE) {
            sheet.refused(name + " from " + person, -1, v -> round.on(v, 0, person, 5, 1));
            sheet.refused(name + " for " + person, -1, v -> round.on(v, 0, 0, person, 1));
        }
        sheet.refused(name + " from 0 for 0, the same", -1, v -> round.on(v, 0, 0, 0, 1));
        sheet.refused(name + " from 5, who holds none", -1, v -> round.on(v, 0, 5, 14, 1));
        for (int each : Sheet.NO_EACH) {
            sheet.refused(name + " at " + each, -1, v -> round.on(v, 0, 0, 5, each));
        }
        for (int each : new int[] {0, 1, 799, 800}) {
            sheet.yes(name + " at " + each, round.on(village.get(), 0, 0, 5, each) >= 0);
        }
        FirstComer x = village.get();
        x.part(0, 0, 15, 11);
        sheet.yes(name + " from one who holds one", round.on(x, 0, 0, 5, 1) >= 0);
        x.part(0, 0, 15, 1);
        sheet.due(name + " from one who holds none", round.on(x, 0, 0, 5, 1), -1);
    }

    // Promise 25

    static void slyRefuses() {
        sheet.sentence(25, "NONE: no such PARCEL told, PEOPLE (the same), the owner holds none of it, another EACH, none.");
        refusesRound("sly", () -> Told.parcels(1), FirstComer::sly);
        FirstComer x = kin(1, "first kin" + ALL + ";");
        sheet.due("none", x.sly(0, 0, 5, 1), -1);
        sheet.due("but one for the kin himself", x.sly(0, 0, 6, 1), 1);
    }

    static void slyChangesNothing() {
        sheet.sentence(25, "How many PASSINGS the SLY ROW has");
        sheet.refused("a row", 1, v -> v.sly(0, 0, 5, 1));
        sheet.refused("a row of another", 1, v -> v.sly(11, 15, 0, 800));
        FirstComer x = Midst.village();
        sheet.due("holds", x.holds(0, 0), 7);
        x.sly(0, 0, 5, 1);
        sheet.due("holds", x.holds(0, 0), 7);
    }

    static void byAllThatIsSoNow() {
        sheet.sentence(25, "WAYS ROUND, by all that is so now.");
        FirstComer x = kin(2, "first kin" + ALL + " when day<9 and need;");
        rowIs(x, 0, 0, 5, 1, 0, 12, SALE);
        x.need(6, true);
        rowIs(x, 0, 0, 5, 1);
        farIs(x, 5, 9, 1, 1, 1, 2);
        x.days(8);
        rowIs(x, 0, 0, 5, 1);
        x.days(1);
        rowIs(x, 0, 0, 5, 1, 0, 12, SALE);
        farIs(x, 5, 9, 1, 2, 2, 3);
        x.pass(0, 0, 9, 5, SALE, 0, 0);
        rowIs(x, 0, 0, 5, 1, 0, 7, SALE);
        farIs(x, 5, 9, 1, 1, 1, 2);
        x.kin(0, 6, 0);
        Told.law(x, "first kin" + ALL + ";");
        rowIs(x, 0, 0, 5, 1, 0, 7, SALE);
    }

    static void fromAnOwnerToAParcel() {
        sheet.sentence(25, "A SLY ROW for a stranger from an owner to a PARCEL");
        FirstComer x = kin(2, "first kin" + ALL + " when not(keeps+n=5);");
        x.part(0, 0, 7, 7);
        rowIs(x, 0, 0, 5, 1, 0, 5, SALE);
        rowIs(x, 0, 7, 5, 1, 0, 7, SALE);
        rowIs(x, 0, 7, 0, 1, 0, 7, SALE);
        rowIs(x, 1, 1, 0, 1, 1, 12, SALE);
        x.part(0, 0, 7, 1);
        rowIs(x, 0, 0, 5, 1);
        rowIs(x, 0, 7, 5, 1, 0, 8, SALE);
    }

    static void byAnyForm() {
        sheet.sentence(25, "by any FORM, at each of which nobody MAY come first");
        String[] forms = {"sale", "gift", "swap"};
        for (int open = 0; open < 3; open++) {
            String law = "";
            for (int form = 0; form < 3; form++) {
                law += form == open ? "" : "first kin on " + forms[form] + " within 1;";
            }
            rowIs(kin(1, law), 0, 0, 5, 1, 0, 12, open);
            // Half of it by this form, and the other half by each other one.
            for (int rest = 0; rest < 3; rest++) {
                FirstComer x = kin(1, "first kin" + ALL + " when not(" + forms[open] + " and keeps=6)and not(" + forms[rest] + " and keeps+n=6);");
                rowIs(x, 0, 0, 5, 1, 0, 6, open, 0, 6, rest);
            }
        }
    }

    static void pricesOfARow() {
        sheet.sentence(25, "A price EACH (0 to 800) is told: of a sale and a swap of n TWELFTHS price and paid are n * EACH, of a gift 0.");
        FirstComer x = kin(1, "first kin" + ALL + " when not(price=9600 and paid=9600);");
        rowIs(x, 0, 0, 5, 800, 0, 12, SALE);
        rowIs(x, 0, 0, 5, 799);
        rowIs(x, 0, 0, 5, 801);
        rowIs(kin(1, "first kin on sale within 1;first kin on gift swap within 1 when not(price=9600 and paid=9600);"), 0, 0, 5, 800, 0, 12, SWAP);
        rowIs(kin(1, "first kin" + ALL + " when price or paid;"), 0, 0, 5, 0, 0, 12, SALE);
        rowIs(kin(1, "first kin" + ALL + " when price or paid;"), 0, 0, 5, 1, 0, 12, GIFT);
        rowIs(kin(1, "first kin" + ALL + " when price<12 or paid<12;"), 0, 0, 5, 0);
        rowIs(kin(1, "first kin" + ALL + " when price<12 or paid<12;"), 0, 0, 5, 1, 0, 12, SALE);
        rowIs(kin(1, "first kin" + ALL + " when 3<price;"), 0, 0, 5, 2, 0, 12, GIFT);
        rowIs(kin(1, "first kin" + ALL + " when gift and n=12 or 6<price;"), 0, 0, 5, 2, 0, 1, SALE, 0, 11, GIFT);
    }

    static void oneToTwelveOfTheOwners() {
        sheet.sentence(25, "each of n (1 to 12) TWELFTHS that the owner holds then");
        for (int held = 1; held <= 12; held++) {
            FirstComer x = Told.parcels(1);
            if (held < 12) {
                x.part(0, 0, 15, 12 - held);
            }
            rowIs(x, 0, 0, 5, 1, 0, held, SALE);
            sheet.due("law()", Told.law(x, "first kin" + ALL + " when 1<n;"), 0);
            x.kin(0, 6, 1);
            sheet.due("one by one", x.sly(0, 0, 5, 1), held);
            sheet.due("the last of them", x.slyRow(0, 0, 5, 1, held - 1, 1), 1);
            sheet.due("behind it", x.slyRow(0, 0, 5, 1, held, 1), -1);
        }
    }

    static void theOtherOne() {
        sheet.sentence(25, "of this PARCEL or of the OTHER one (that of the least number, not this one, of which he holds some at first; there may be none)");
        // Who has nothing gets only from what the owner holds 7 of.
        FirstComer x = kin(6, "first kin" + ALL + " when not has and not(keeps+n=7);");
        rowIs(x, 0, 0, 9, 1);
        x.part(4, 4, 0, 7);
        rowIs(x, 0, 0, 9, 1, 4, 1, SALE, 0, 12, SALE);
        x.part(3, 3, 0, 1);
        rowIs(x, 0, 0, 9, 1);
        rowIs(x, 3, 0, 9, 1);
        x.part(3, 0, 3, 1);
        rowIs(x, 0, 0, 9, 1, 4, 1, SALE, 0, 12, SALE);
        x.part(5, 5, 0, 1);
        rowIs(x, 0, 0, 9, 1, 4, 1, SALE, 0, 12, SALE);
        rowIs(x, 4, 0, 9, 1, 4, 7, SALE);
        rowIs(x, 5, 0, 9, 1);
        x.part(0, 0, 3, 5);
        rowIs(x, 5, 0, 9, 1, 0, 1, SALE, 5, 1, SALE);
    }

    static void theFirstAndTheLastParcelAsTheOther() {
        sheet.sentence(25, "that of the least number, not this one");
        String law = "first kin" + ALL + " when not has and not(keeps+n=7);";
        for (int other = 0; other < 12; other++) {
            for (int parcel = 0; parcel < 12; parcel++) {
                if (parcel != other) {
                    FirstComer x = Told.parcels(0, law);
                    x.kin(0, 6, 1);
                    x.parcel(parcel, 0);
                    x.parcel(other, 1);
                    x.part(other, 1, 0, 7);
                    rowIs(x, parcel, 0, 5, 1, other, 1, SALE, parcel, 12, SALE);
                    x.part(other, 0, 1, 7);
                    rowIs(x, parcel, 0, 5, 1);
                }
            }
        }
    }

    static void theOtherOneStaysTheOther() {
        sheet.sentence(25, "of which he holds some at first");
        // This one waits for an estate of nothing else: the other one alone may go, not the third.
        FirstComer x = kin(3, "first kin" + ALL + " when keeps+n=12 and 12<estate+n;");
        x.part(1, 1, 0, 1);
        rowIs(x, 0, 0, 5, 1, 1, 1, SALE, 0, 12, SALE);
        x.part(2, 2, 0, 1);
        rowIs(x, 0, 0, 5, 1);
    }

    static void theFirstInOrder() {
        sheet.sentence(25, "The shortest; of as long ones the first in order: by its first PASSING's PARCEL (this one, then the OTHER one), n, FORM (sale, gift, swap), then by the second one's, and so on.");
        FirstComer x = kin(2, "first kin" + ALL + " when keeps=0 and not has;");
        x.part(1, 1, 0, 12);
        rowIs(x, 1, 0, 5, 1, 1, 1, SALE, 1, 11, SALE);
        rowIs(x, 0, 0, 5, 1, 0, 1, SALE, 0, 11, SALE);
        Told.law(x, "first kin" + ALL + " when keeps=0 and not has or n=1 or(n=2 and sale);");
        rowIs(x, 0, 0, 5, 1, 0, 2, GIFT, 0, 10, SALE);
        Told.law(x, "first kin" + ALL + " when keeps=0 and not has or n=1 or(n=2 and not swap);");
        rowIs(x, 0, 0, 5, 1, 0, 2, SWAP, 0, 10, SALE);
        Told.law(x, "first kin" + ALL + " when keeps=0 and not has or n<3;");
        rowIs(x, 0, 0, 5, 1, 0, 3, SALE, 0, 9, SALE);
        x.part(0, 0, 15, 1);
        Told.law(x, "first kin" + ALL + " when 4<n;");
        rowIs(x, 0, 0, 5, 1, 0, 3, SALE, 0, 4, SALE, 0, 4, SALE);
        Told.law(x, "first kin" + ALL + " when n=3 and keeps=8 or 4<n;");
        rowIs(x, 0, 0, 5, 1, 0, 4, SALE, 0, 3, SALE, 0, 4, SALE);
        Told.law(x, "first kin" + ALL + " when n=3 and 0<keeps or 4<n;");
        rowIs(x, 0, 0, 5, 1, 0, 4, SALE, 0, 4, SALE, 0, 3, SALE);
    }

    static void nobodyMayAtEach() {
        sheet.sentence(25, "at each of which nobody MAY come first; at last the owner holds none of this PARCEL.");
        FirstComer x = kin(1, "first kin" + ALL + " when keeps=0 and n=12 or keeps=5;");
        rowIs(x, 0, 0, 5, 1, 0, 1, SALE, 0, 11, SALE);
        x.care(6, false);
        rowIs(x, 0, 0, 5, 1, 0, 1, SALE, 0, 11, SALE);
        Told.law(x, "first kin" + ALL + " when not(n=7);");
        rowIs(x, 0, 0, 5, 1);
        x.part(0, 0, 15, 5);
        rowIs(x, 0, 0, 5, 1, 0, 7, SALE);
        sheet.due("the other one's stay", x.holds(0, 15), 5);
        Told.law(x, "free when n=7;first kin" + ALL + ";");
        rowIs(x, 0, 0, 5, 1, 0, 7, SALE);
        Told.law(x, "first kin" + ALL + ";free when n=8;");
        rowIs(x, 0, 0, 5, 1);
    }

    static void theLongestRow() {
        sheet.sentence(25, "PASSINGS from that owner to the stranger, one behind the other");
        // One by one, and this one's last waits for all of the other one.
        FirstComer y = Told.parcels(3, "first kin" + ALL + " when 1<n;first side" + ALL + " when keeps=0 and estate;");
        y.kin(0, 6, 1);
        y.beside(0, 2, 0);
        y.part(1, 1, 0, 12);
        int[] row = new int[72];
        for (int i = 0; i < 24; i++) {
            row[3 * i] = i < 11 || i == 23 ? 0 : 1;
            row[3 * i + 1] = 1;
            row[3 * i + 2] = SALE;
        }
        rowIs(y, 0, 0, 5, 1, row);
        sheet.due("mended by nothing", y.mended(0, 0, 5, 1, 0), -1);
    }

    // Promise 26

    static void slyRowRefuses() {
        sheet.sentence(26, "NONE: as of sly(), none such.");
        refusesRound("slyRow", () -> Told.parcels(1), (x, parcel, owner, stranger, each) -> x.slyRow(parcel, owner, stranger, each, 0, 1));
        for (int i : new int[] {-1, 1, 2, 24, Integer.MIN_VALUE, Integer.MAX_VALUE}) {
            sheet.refused("slyRow of " + i, -1, v -> v.slyRow(11, 15, 0, 1, i, 0));
        }
        for (int what : new int[] {-1, 3, 4, Integer.MIN_VALUE, Integer.MAX_VALUE}) {
            sheet.refused("slyRow, what " + what, -1, v -> v.slyRow(11, 15, 0, 1, 0, what));
        }
        FirstComer x = kin(1, "first kin" + ALL + ";");
        sheet.due("of none", x.slyRow(0, 0, 5, 1, 0, 0), -1);
        sheet.due("of none, behind it", x.slyRow(0, 0, 5, 1, -1, 0), -1);
    }

    static void whatZeroToTwo() {
        sheet.sentence(26, "Of the i-th PASSING of that ROW, what 0: its PARCEL, 1: n, 2: FORM");
        FirstComer x = Midst.village();
        sheet.row("slyRow(11, 15, 0, 1, 0, what)", what -> x.slyRow(11, 15, 0, 1, 0, what), 11, 12, 0, -1);
        sheet.row("slyRow(11, 15, 0, 1, 1, what)", what -> x.slyRow(11, 15, 0, 1, 1, what), -1, -1, -1, -1);
        x.law();
        Told.law(x, "first water" + ALL + " when n<4 and gift or sale or 8<n;");
        sheet.row("slyRow(11, 15, 5, 1, 0, what)", what -> x.slyRow(11, 15, 5, 1, 0, what), 11, 4, 1, -1);
        sheet.row("slyRow(11, 15, 5, 1, 1, what)", what -> x.slyRow(11, 15, 5, 1, 1, what), 11, 8, 1, -1);
    }

    // Promise 27

    private static void farIs(FirstComer x, int stranger, int years, int each, int most, int fewest, int set) {
        String call = "far(" + stranger + ", " + years + ", " + each + ", what)";
        sheet.row(call, what -> x.far(stranger, years, each, what), most, fewest, set, -1);
    }

    static void farRefuses() {
        sheet.sentence(27, "NONE: no such PERSON, YEARS, EACH, what.");
        for (int person : Sheet.NO_PEOPLE) {
            sheet.refused("far(" + person + ", 1, 1, 0)", -1, v -> v.far(person, 1, 1, 0));
        }
        for (int years : new int[] {0, -1, 10, 11, Integer.MIN_VALUE, Integer.MAX_VALUE}) {
            sheet.refused("far(5, " + years + ", 1, 0)", -1, v -> v.far(5, years, 1, 0));
        }
        for (int each : Sheet.NO_EACH) {
            sheet.refused("far(5, 1, " + each + ", 0)", -1, v -> v.far(5, 1, each, 0));
        }
        for (int what : new int[] {-1, 3, 4, Integer.MIN_VALUE, Integer.MAX_VALUE}) {
            sheet.refused("far(5, 1, 1, " + what + ")", -1, v -> v.far(5, 1, 1, what));
        }
        FirstComer x = Midst.village();
        int most = x.far(5, 9, 1, 0);
        sheet.refused("far(5, 9, 1, 0), which changes nothing", most, v -> v.far(5, 9, 1, 0));
    }

    static void whatIsToldOfIt() {
        sheet.sentence(27, "HOW FAR, what 0: the most PARCELS, 1: the fewest YEARS, 2: the set");
        FirstComer x = Told.parcels(12, "first kin" + ALL + ";");
        for (int owner = 0; owner < 11; owner++) {
            x.kin(owner, 14, 1);
        }
        farIs(x, 15, 9, 0, 1, 1, 1 << 11);
        farIs(x, 0, 9, 0, 2, 1, 1 << 11 | 1);
        farIs(x, 11, 9, 0, 1, 0, 1 << 11);
        farIs(x, 14, 9, 0, 9, 9, 511);
    }

    static void oneToNineYears() {
        sheet.sentence(27, "HOW FAR a stranger comes in YEARS (1 to 9)");
        FirstComer x = Told.parcels(12);
        for (int years = 1; years <= 9; years++) {
            farIs(x, 15, years, 0, years, years, (1 << years) - 1);
        }
        farIs(x, 0, 9, 0, 10, 9, 1023);
        farIs(x, 11, 9, 0, 10, 9, 1 << 11 | 511);
        FirstComer y = Told.parcels(3);
        farIs(y, 15, 9, 0, 3, 3, 7);
        farIs(y, 15, 3, 0, 3, 3, 7);
        farIs(y, 15, 2, 0, 2, 2, 3);
        farIs(y, 15, 1, 0, 1, 1, 1);
    }

    static void theEmptyAndTheFull() {
        sheet.sentence(27, "The most PARCELS of which he holds all then, the fewest YEARS for that, and of the sets of those PARCELS that come about so the least one as bits.");
        farIs(new FirstComer(), 0, 9, 0, 0, 0, 0);
        FirstComer x = new FirstComer();
        for (int parcel = 0; parcel < 12; parcel++) {
            x.parcel(parcel, 15);
        }
        farIs(x, 15, 9, 0, 12, 0, 4095);
        farIs(x, 15, 1, 800, 12, 0, 4095);
        farIs(x, 0, 9, 0, 9, 9, 511);
        for (int parcel = 0; parcel < 9; parcel++) {
            x.part(parcel, 15, 0, 12);
        }
        farIs(x, 15, 9, 0, 12, 9, 4095);
        farIs(x, 15, 8, 0, 11, 8, 4095 - 256);
        farIs(x, 0, 9, 0, 12, 3, 4095);
    }

    static void somebodyElseHoldsAll() {
        sheet.sentence(27, "in each he may get one PARCEL of which somebody else holds all 12 TWELFTHS by one PASSING of all of them, by any FORM");
        FirstComer x = Told.parcels(2);
        x.part(0, 0, 5, 1);
        farIs(x, 15, 9, 0, 1, 1, 2);
        farIs(x, 5, 9, 0, 1, 1, 2);
        farIs(x, 0, 9, 0, 1, 1, 2);
        x.part(0, 0, 5, 10);
        farIs(x, 5, 9, 0, 1, 1, 2);
        x.part(0, 0, 5, 1);
        farIs(x, 5, 9, 0, 2, 1, 3);
        farIs(x, 15, 9, 0, 2, 2, 3);
        for (int shut = 0; shut < 8; shut++) {
            String forms = (shut & 1) != 0 ? " sale" : "";
            forms += (shut & 2) != 0 ? " gift" : "";
            forms += (shut & 4) != 0 ? " swap" : "";
            FirstComer y = kin(1, shut == 0 ? "" : "first kin on" + forms + " within 1;");
            farIs(y, 5, 1, 0, shut == 7 ? 0 : 1, shut == 7 ? 0 : 1, shut == 7 ? 0 : 1);
        }
    }

    static void allOfThemAtTheirPrice() {
        sheet.sentence(27, "A price EACH (0 to 800) is told");
        farIs(kin(1, "first kin on sale swap within 1 when price<9600 or paid<9600;first kin on gift within 1;"), 5, 1, 800, 1, 1, 1);
        farIs(kin(1, "first kin on sale swap within 1 when price<9600 or paid<9600;first kin on gift within 1;"), 5, 1, 799, 0, 0, 0);
        farIs(kin(1, "first kin" + ALL + " when price or paid;"), 5, 1, 0, 1, 1, 1);
        farIs(kin(1, "first kin on gift within 1 when price or paid;first kin on sale swap within 1;"), 5, 1, 800, 1, 1, 1);
        farIs(kin(1, "first kin" + ALL + " when not(n=12 and keeps=0 and estate=0);"), 5, 1, 800, 1, 1, 1);
    }

    static void nobodyWhoCares() {
        sheet.sentence(27, "at which nobody who CARES (all at first) MAY come first.");
        FirstComer x = kin(1, "first kin" + ALL + ";");
        x.kin(0, 15, 1);
        farIs(x, 5, 1, 0, 0, 0, 0);
        x.care(6, false);
        farIs(x, 5, 1, 0, 0, 0, 0);
        x.care(15, false);
        farIs(x, 5, 1, 0, 1, 1, 1);
        x.care(6, true);
        farIs(x, 5, 1, 0, 0, 0, 0);
        farIs(x, 6, 1, 0, 1, 1, 1);
        sheet.due("a sly row asks for all", x.sly(0, 0, 5, 0), -1);
    }

    static void oneOpensTheNext() {
        sheet.sentence(27, "of the sets of those PARCELS that come about so the least one as bits");
        // Each one's neighbour is the next one's owner, the last one has none: from there he comes on as a neighbour.
        FirstComer x = Told.parcels(4, "first side" + ALL + ";");
        x.beside(0, 1, 0);
        x.beside(1, 2, 0);
        x.beside(2, 3, 0);
        x.care(2, false);
        farIs(x, 9, 1, 0, 1, 1, 8);
        farIs(x, 9, 2, 0, 2, 2, 12);
        farIs(x, 9, 3, 0, 3, 3, 14);
        farIs(x, 9, 4, 0, 4, 4, 15);
        farIs(x, 9, 9, 0, 4, 4, 15);
    }

    static void fromTheLastToTheFirst() {
        sheet.sentence(27, "HOW FAR a stranger comes in YEARS (1 to 9): in each he may get one PARCEL");
        // Kin who cares stops him everywhere but at parcel 11, and where he is a neighbour by then.
        FirstComer x = Told.parcels(12, "first side" + ALL + ";first kin" + ALL + ";");
        for (int parcel = 0; parcel < 12; parcel++) {
            x.care(parcel, false);
            if (parcel < 11) {
                x.kin(parcel, 14, 1);
                x.beside(parcel, parcel + 1, parcel % 4);
            }
        }
        for (int years = 1; years <= 9; years++) {
            farIs(x, 15, years, 0, years, years, 4096 - (1 << 12 - years));
        }
        farIs(x, 14, 9, 0, 9, 9, 511);
        farIs(x, 11, 9, 0, 10, 9, 4096 - 4);
    }

    static void whatMustComeAhead() {
        sheet.sentence(27, "of the sets of those PARCELS that come about so the least one as bits");
        // Parcel 2 goes to one who has nothing, the other two to anybody.
        FirstComer x = Told.parcels(3, "first kin" + ALL + " when has;");
        x.kin(2, 6, 1);
        farIs(x, 9, 1, 0, 1, 1, 1);
        farIs(x, 9, 2, 0, 2, 2, 3);
        farIs(x, 9, 3, 0, 3, 3, 7);
        x.parcel(3, 9);
        farIs(x, 9, 9, 0, 3, 2, 11);
        farIs(x, 8, 9, 0, 4, 4, 15);
        Told.law(x, "first kin" + ALL + " when not(has=1);");
        farIs(x, 8, 1, 0, 1, 1, 1);
        farIs(x, 8, 9, 0, 4, 4, 15);
        Told.law(x, "first kin" + ALL + " when not(has=4);");
        farIs(x, 8, 9, 0, 3, 3, 11);
        x.kin(9, 6, 1);
        Told.law(x, "first kin" + ALL + " when not(has=2);");
        farIs(x, 8, 9, 0, 3, 3, 7);
        farIs(x, 9, 9, 0, 4, 3, 15);
    }

    // Promise 28

    private static FirstComer sixHonest() {
        FirstComer x = Told.parcels(2, "maybe first side" + ALL + ";");
        x.beside(0, 1, 0);
        for (int i = 0; i < 6; i++) {
            x.honest(0, 5, 9, 12, SALE, i);
        }
        return x;
    }

    static void sixAtMost() {
        sheet.sentence(28, "HONEST PASSINGS, 6 at most, are told (at prices told alike paid).");
        FirstComer x = Told.parcels(2);
        for (int i = 0; i < 6; i++) {
            sheet.due("so many", x.count(6), i);
            sheet.yes("one more, the same", x.honest(0, 0, 1, 1, SALE, 1));
        }
        sheet.no("a seventh", x.honest(0, 0, 1, 1, SALE, 1));
        sheet.due("six", x.count(6), 6);
        sheet.refused(WaysEdgesTest::sixHonest, "a seventh that would count", 0, v -> Sheet.bit(v.honest(0, 0, 9, 12, SALE, 0)));
        sheet.refused(WaysEdgesTest::sixHonest, "a seventh that is none", 0, v -> Sheet.bit(v.honest(0, 0, 0, 12, SALE, 0)));
    }

    static void honestRefuses() {
        sheet.sentence(28, "An HONEST PASSING: true; false: others (as of pass(), but for who holds what), 6 are there.");
        for (int parcel : Sheet.NO_PARCELS) {
            sheet.refused("honest of parcel " + parcel, 0, v -> Sheet.bit(v.honest(parcel, 15, 0, 1, SALE, 5)));
        }
        sheet.refused("honest of parcel 5, not told", 0, v -> Sheet.bit(v.honest(5, 15, 0, 1, SALE, 5)));
        for (int person : Sheet.NO_PEOPLE) {
            sheet.refused("honest from " + person, 0, v -> Sheet.bit(v.honest(11, person, 0, 1, SALE, 5)));
            sheet.refused("honest to " + person, 0, v -> Sheet.bit(v.honest(11, 15, person, 1, SALE, 5)));
        }
        sheet.refused("honest from 15 to 15", 0, v -> Sheet.bit(v.honest(11, 15, 15, 1, SALE, 5)));
        for (int n : Sheet.NO_TWELFTHS) {
            sheet.refused("honest of " + n, 0, v -> Sheet.bit(v.honest(11, 15, 0, n, SALE, 5)));
        }
        for (int form : Sheet.NO_FORMS) {
            sheet.refused("honest by form " + form, 0, v -> Sheet.bit(v.honest(11, 15, 0, 1, form, 0)));
        }
        for (int price : Sheet.NO_PRICES) {
            sheet.refused("honest at " + price, 0, v -> Sheet.bit(v.honest(11, 15, 0, 1, SALE, price)));
            sheet.refused("honest by a swap at " + price, 0, v -> Sheet.bit(v.honest(11, 15, 0, 1, SWAP, price)));
            sheet.refused("honest by a gift at " + price, 0, v -> Sheet.bit(v.honest(11, 15, 0, 1, GIFT, price)));
        }
        sheet.refused("honest by a gift at 1", 0, v -> Sheet.bit(v.honest(11, 15, 0, 1, GIFT, 1)));
        sheet.refused("honest by a gift at 9999", 0, v -> Sheet.bit(v.honest(11, 15, 0, 1, GIFT, 9999)));
    }

    static void honestWhoeverHoldsWhat() {
        sheet.sentence(28, "but for who holds what");
        FirstComer x = Midst.village();
        sheet.yes("12 of one who holds none", x.honest(11, 0, 15, 12, SALE, 9999));
        sheet.yes("one more than he holds", x.honest(0, 6, 5, 4, SWAP, 0));
        sheet.yes("a gift", x.honest(0, 14, 5, 1, GIFT, 0));
        sheet.due("no passing", x.count(2), 4);
        sheet.due("nothing went", x.holds(11, 15), 12);
    }

    // Promise 29

    private static void mendedIs(FirstComer x, int lines, int bits) {
        sheet.due("mended, lines", x.mended(0, 0, 5, 1, 0), lines);
        sheet.due("mended, bits", x.mended(0, 0, 5, 1, 1), bits);
    }

    static void mendedRefuses() {
        sheet.sentence(29, "NONE: as of sly() (but for none: 0 LINES then, if the HONEST ones are), another what, no set does.");
        refusesRound("mended", () -> kin(1, "maybe first kin" + ALL + ";"), (x, parcel, owner, stranger, each) -> x.mended(parcel, owner, stranger, each, 0));
        FirstComer x = Midst.village();
        mendedIs(x, 1, 1);
        for (int what : new int[] {-1, 2, 3, Integer.MIN_VALUE, Integer.MAX_VALUE}) {
            sheet.refused("mended, what " + what, -1, v -> v.mended(0, 0, 5, 1, what));
        }
        FirstComer y = kin(1, "");
        mendedIs(y, -1, -1);
        Told.law(y, "maybe first water" + ALL + ";maybe free when 1;");
        mendedIs(y, -1, -1);
    }

    static void noRowAtAll() {
        sheet.sentence(29, "but for none: 0 LINES then, if the HONEST ones are");
        FirstComer x = kin(3, "first kin" + ALL + " when not(n=5);maybe first side" + ALL + ";");
        mendedIs(x, 0, 0);
        x.honest(2, 2, 9, 12, SALE, 5);
        mendedIs(x, 0, 0);
        x.honest(0, 0, 9, 5, SALE, 5);
        mendedIs(x, 0, 0);
        x.honest(0, 0, 9, 4, SALE, 5);
        mendedIs(x, -1, -1);
        Told.law(x, "first kin" + ALL + " when not(n=5);maybe first side" + ALL + ";maybe free when price=5;");
        mendedIs(x, 1, 2);
        Told.law(x, "first kin" + ALL + " when not(n=5);maybe first side" + ALL + ";maybe free when price=4;");
        mendedIs(x, -1, -1);
        FirstComer y = kin(1, "first kin" + ALL + " when not(price=5);maybe first kin" + ALL + ";maybe free when 1;");
        mendedIs(y, 0, 0);
        y.honest(0, 0, 9, 12, SALE, 5);
        mendedIs(y, 0, 0);
    }

    static void theFewestTheLeastAsBits() {
        sheet.sentence(29, "Wanted is the set of the fewest, of as many the least as bits, with which there is no SLY ROW");
        String sale = "maybe first kin on sale within 1;";
        String gift = "maybe first kin on gift within 1;";
        String swap = "maybe first kin on swap within 1;";
        String all = "maybe first kin" + ALL + ";";
        mendedIs(kin(1, sale + gift + swap), 3, 7);
        mendedIs(kin(1, sale + gift + swap + all), 1, 8);
        mendedIs(kin(1, all + sale + gift + swap), 1, 1);
        mendedIs(kin(1, sale + all + all), 1, 2);
        mendedIs(kin(1, sale + "maybe first kin on gift swap within 1;maybe first kin on sale gift within 1;" + swap), 2, 3);
        mendedIs(kin(1, swap + gift + "maybe first kin on gift swap within 1;" + gift + swap + sale), 2, 36);
        String six = "";
        for (String form : new String[] {"sale", "gift", "swap"}) {
            six += "maybe first kin on " + form + " within 1 when n<6;maybe first kin on " + form + " within 1 when 5<n;";
        }
        mendedIs(kin(1, six), 6, 63);
        mendedIs(kin(1, all + "maybe free when 1;"), 1, 1);
        mendedIs(kin(1, "maybe free when 1;" + all), 1, 2);
        mendedIs(kin(1, "maybe free when 1;maybe free when gift;" + sale + gift + swap), 3, 28);
        mendedIs(kin(1, six.replace("5<n", "6<n")), -1, -1);
    }

    static void aSetAsBits() {
        sheet.sentence(29, "MENDED: LINES with maybe, a set of them as bits (from 0 in the text)");
        for (int at = 0; at < 6; at++) {
            String law = Told.times(at, "maybe free when 0;first side" + ALL + ";") + "maybe first kin" + ALL + ";" + Told.times(5 - at, "maybe first water" + ALL + ";");
            mendedIs(kin(1, law), 1, 1 << at);
        }
    }

    static void asTheyStandInTheText() {
        sheet.sentence(29, "each of them is in force, too, as it stands in the text among the others.");
        // Ahead of the stranger's own line it stops him; behind it, it does not.
        FirstComer x = kin(2, "maybe first kin" + ALL + ";first side" + ALL + ";maybe first kin" + ALL + ";");
        x.beside(0, 1, 0);
        x.part(1, 1, 5, 12);
        mendedIs(x, 1, 1);
        Told.law(x, "first side" + ALL + ";maybe first kin" + ALL + ";");
        mendedIs(x, -1, -1);
        Told.law(x, "maybe first side" + ALL + ";maybe first kin" + ALL + ";");
        mendedIs(x, 1, 2);
    }

    static void thatCanBeNow() {
        sheet.sentence(29, "at each HONEST PASSING that can be now (the seller holds so many) nobody MAY come first.");
        FirstComer x = kin(2, "maybe first kin" + ALL + ";maybe first kin" + ALL + " when not(price=5);");
        mendedIs(x, 1, 1);
        x.honest(0, 0, 9, 4, SALE, 5);
        mendedIs(x, 1, 2);
        x.part(0, 0, 15, 8);
        mendedIs(x, 1, 2);
        x.part(0, 0, 15, 1);
        mendedIs(x, 1, 1);
        x.part(0, 15, 0, 1);
        mendedIs(x, 1, 2);
    }

    static void toldAlikePaid() {
        sheet.sentence(29, "(at prices told alike paid)");
        for (int price : new int[] {0, 9999}) {
            FirstComer x = kin(1, "maybe first kin" + ALL + " when not(price=" + price + " and paid=" + price + " and n=12);");
            x.honest(0, 0, 9, 12, SALE, price);
            mendedIs(x, price == 0 ? -1 : 1, price == 0 ? -1 : 1);
            x.honest(0, 0, 9, 11, SALE, price);
            mendedIs(x, -1, -1);
        }
    }

    static void honestOnesAllCount() {
        sheet.sentence(29, "HONEST PASSINGS, 6 at most, are told");
        for (int last = 0; last < 6; last++) {
            FirstComer x = kin(2, "maybe first kin" + ALL + ";");
            for (int i = 0; i < 6; i++) {
                mendedIs(x, i > last ? -1 : 1, i > last ? -1 : 1);
                x.honest(i == last ? 0 : 1, i == last ? 0 : 1, 9, 12, SALE, 3);
            }
            mendedIs(x, -1, -1);
        }
    }

    static void askedInTurn() {
        sheet.sentence(29, "NONE: as of sly() (but for none: 0 LINES then, if the HONEST ones are)");
        FirstComer x = kin(2, "maybe first kin" + ALL + " when price<12;");
        for (int i = 0; i < 3; i++) {
            sheet.due("stopped at 0", x.mended(0, 0, 5, 0, 0), 1);
            sheet.due("the row at 0", x.slyRow(0, 0, 5, 0, 0, 0), 0);
            sheet.due("not stopped at 1", x.mended(0, 0, 5, 1, 0), -1);
            sheet.due("stopped at 0", x.mended(0, 0, 5, 0, 1), 1);
            sheet.due("the kin himself is not stopped", x.mended(0, 0, 6, 0, 0), -1);
            sheet.due("stopped at 0", x.mended(0, 0, 5, 0, 1), 1);
            sheet.due("another parcel", x.mended(1, 1, 5, 0, 0), -1);
            sheet.due("its row", x.slyRow(1, 1, 5, 0, 0, 0), 1);
            sheet.due("stopped at 0", x.mended(0, 0, 5, 0, 0), 1);
            sheet.due("the other one's row", x.slyRow(1, 1, 5, 0, 0, 0), 1);
            sheet.due("how far at 0", x.far(5, 9, 0, 2), 3);
            sheet.due("another price", x.far(5, 9, 800, 0), 2);
        }
        x.part(0, 0, 7, 6);
        for (int i = 0; i < 3; i++) {
            sheet.due("of an owner whose kin comes", x.mended(0, 0, 5, 0, 0), 1);
            sheet.due("of another owner", x.mended(0, 7, 5, 0, 0), -1);
        }
    }

    static void mendedChangesNothing() {
        sheet.sentence(29, "MENDED against the SLY ROW, what 0: how many LINES, 1: as bits");
        Supplier<FirstComer> village = () -> {
            FirstComer x = kin(2, "maybe first kin" + ALL + ";");
            x.honest(1, 1, 9, 12, SALE, 3);
            return x;
        };
        sheet.refused(village, "mended, lines", 1, v -> v.mended(0, 0, 5, 1, 0));
        sheet.refused(village, "mended, bits", 1, v -> v.mended(0, 0, 5, 1, 1));
        FirstComer x = village.get();
        sheet.due("mended", x.mended(0, 0, 5, 1, 0), 1);
        sheet.due("the lines with maybe are not in force behind it", x.sly(0, 0, 5, 1), 1);
        sheet.due("nobody may", x.would(0, 0, 5, 1, SALE, 1, 1), 0);
    }
}
