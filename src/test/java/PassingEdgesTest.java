import java.util.function.Supplier;

/** Boundary cases of promises 14 to 24: passings, who may come first at them, hearing, waiving, proving, claims and parts. */
public final class PassingEdgesTest {
    private static final int SALE = Told.SALE;
    private static final int GIFT = Told.GIFT;
    private static final int SWAP = Told.SWAP;
    private static final int[] NO_PASSINGS = {-1, 4, 5, 39, 40, 41, Integer.MIN_VALUE, Integer.MAX_VALUE};
    private static final Sheet sheet = new Sheet(PassingEdgesTest.class);

    /** pass() or would(). */
    private interface Dealing {
        int on(FirstComer x, int parcel, int from, int to, int n, int form, int price, int paid);
    }

    public static void main(String[] args) {
        sheet.run();
    }

    // Promises 14 and 15: what pass() and would() refuse alike

    private static void refusesForms(String name, Dealing deal) {
        for (int form = 0; form < 3; form++) {
            sheet.yes(name + " by form " + form, deal.on(Midst.village(), 11, 15, 0, 1, form, 0, 0) >= 0);
        }
        for (int form : Sheet.NO_FORMS) {
            sheet.refused(name + " by form " + form, -1, v -> deal.on(v, 11, 15, 0, 1, form, 0, 0));
        }
    }

    private static void refusesPrices(String name, Dealing deal) {
        int[] ends = {0, 1, 9998, 9999};
        for (int form = 0; form < 3; form += 2) {
            int by = form;
            for (int price : ends) {
                for (int paid : ends) {
                    sheet.yes(name + " at " + price + ", " + paid, deal.on(Midst.village(), 11, 15, 0, 1, form, price, paid) >= 0);
                }
            }
            for (int price : Sheet.NO_PRICES) {
                sheet.refused(name + " told " + price, -1, v -> deal.on(v, 11, 15, 0, 1, by, price, 0));
                sheet.refused(name + " paid " + price, -1, v -> deal.on(v, 11, 15, 0, 1, by, 0, price));
                sheet.refused(name + " told and paid " + price, -1, v -> deal.on(v, 11, 15, 0, 1, by, price, price));
            }
        }
    }

    private static void refusesGiftsWithAPrice(String name, Dealing deal) {
        sheet.yes(name + ", a gift", deal.on(Midst.village(), 11, 15, 0, 12, GIFT, 0, 0) >= 0);
        sheet.refused(name + ", a gift told 1", -1, v -> deal.on(v, 11, 15, 0, 1, GIFT, 1, 0));
        sheet.refused(name + ", a gift paid 1", -1, v -> deal.on(v, 11, 15, 0, 1, GIFT, 0, 1));
        sheet.refused(name + ", a gift at 9999", -1, v -> deal.on(v, 11, 15, 0, 1, GIFT, 9999, 9999));
        sheet.refused(name + ", a gift at -1", -1, v -> deal.on(v, 11, 15, 0, 1, GIFT, -1, -1));
    }

    private static void refusesOthers(String name, Dealing deal) {
        for (int parcel : Sheet.NO_PARCELS) {
            sheet.refused(name + " of parcel " + parcel, -1, v -> deal.on(v, parcel, 15, 0, 1, SALE, 5, 5));
        }
        sheet.refused(name + " of parcel 5, not told", -1, v -> deal.on(v, 5, 15, 0, 1, SALE, 5, 5));
        for (int person : Sheet.NO_PEOPLE) {
            sheet.refused(name + " from " + person, -1, v -> deal.on(v, 11, person, 0, 1, SALE, 5, 5));
            sheet.refused(name + " to " + person, -1, v -> deal.on(v, 11, 15, person, 1, SALE, 5, 5));
        }
        for (int n : Sheet.NO_TWELFTHS) {
            sheet.refused(name + " of " + n, -1, v -> deal.on(v, 11, 15, 0, n, SALE, 5, 5));
        }
        sheet.refused(name + " from 15 to 15", -1, v -> deal.on(v, 11, 15, 15, 1, SALE, 5, 5));
        sheet.refused(name + " from 5 to 5", -1, v -> deal.on(v, 11, 5, 5, 1, SALE, 5, 5));
    }

    private static void refusesWhatIsNotHeld(String name, Dealing deal) {
        for (int n = 1; n <= 12; n++) {
            int some = n;
            sheet.yes(name + " of " + n + " of 12", deal.on(Midst.village(), 11, 15, 0, n, SALE, 5, 5) >= 0);
            if (n <= 3) {
                sheet.yes(name + " of " + n + " of 3", deal.on(Midst.village(), 0, 6, 5, n, SALE, 5, 5) >= 0);
            } else {
                sheet.refused(name + " of " + n + " of 3", -1, v -> deal.on(v, 0, 6, 5, some, SALE, 5, 5));
            }
            sheet.refused(name + " of " + n + " of none", -1, v -> deal.on(v, 0, 5, 6, some, SALE, 5, 5));
        }
    }

    // Promise 14

    static void passByAForm() {
        sheet.sentence(14, "A PASSING by a FORM (0 sale, 1 gift, 2 swap): its number");
        refusesForms("pass", FirstComer::pass);
    }

    static void passAtPrices() {
        sheet.sentence(14, "at a price told and a price paid (0 to 9999 each; of a gift 0)");
        refusesPrices("pass", FirstComer::pass);
    }

    static void passAGift() {
        sheet.sentence(14, "a gift with a price");
        refusesGiftsWithAPrice("pass", FirstComer::pass);
    }

    static void passOthers() {
        sheet.sentence(14, "NONE: others (the same seller and buyer, a gift with a price)");
        refusesOthers("pass", FirstComer::pass);
    }

    static void passWhatIsHeld() {
        sheet.sentence(14, "the seller does not hold so many");
        refusesWhatIsNotHeld("pass", FirstComer::pass);
        FirstComer x = Told.parcels(1);
        sheet.due("all 12", x.pass(0, 0, 1, 12, SALE, 0, 0), 0);
        sheet.due("none is left", x.pass(0, 0, 1, 1, SALE, 0, 0), -1);
        sheet.due("11 of 12", x.pass(0, 1, 0, 11, SALE, 0, 0), 1);
        sheet.due("2 of 1", x.pass(0, 1, 0, 2, SALE, 0, 0), -1);
        sheet.due("1 of 1", x.pass(0, 1, 0, 1, SALE, 0, 0), 2);
        sheet.due("all are back", x.holds(0, 0), 12);
    }

    static void theyGoFromTheSellerToTheBuyer() {
        sheet.sentence(14, "A PASSING: so many TWELFTHS (n) of a PARCEL go from a seller, who holds them, to a buyer by a FORM");
        for (int form = 0; form < 3; form++) {
            for (int n = 1; n <= 12; n++) {
                FirstComer x = Told.parcels(2);
                sheet.due("pass", x.pass(0, 0, 1, n, form, 0, 0), 0);
                sheet.due("the seller's", x.holds(0, 0), 12 - n);
                sheet.due("the buyer's", x.holds(0, 1), n);
                sheet.due("the other parcel's", x.holds(1, 1), 12);
            }
        }
    }

    static void toldOnTheDayNow() {
        sheet.sentence(14, "PASSINGS, 40 at most, are told on the DAY NOW: who MAY with which RANK and days is kept with each, by the LAW of then.");
        FirstComer x = Told.parcels(4, "first kin on sale within 3 when need;first side on sale within 4;parts shares;");
        x.days(7);
        x.kin(0, 5, 1);
        x.need(5, true);
        x.beside(0, 1, 0);
        x.beside(0, 2, 0);
        x.part(1, 1, 2, 3);
        x.pass(0, 0, 9, 8, SALE, 1, 1);
        x.hears(0, 1, 7);
        x.hears(0, 5, 7);
        Told.law(x, "first water on sale within 9;first side on sale within 8;free when 1;parts heads;");
        x.days(1);
        x.kin(0, 5, 0);
        x.need(5, false);
        x.water(0, 3);
        x.part(1, 2, 3, 3);
        x.part(2, 2, 3, 12);
        sheet.due("its day", x.look(0, 7), 7);
        sheet.due("not free", x.look(0, 8), 0);
        sheet.row("may(0, person)", person -> x.may(0, person), -1, 1, 1, -1, -1, 0, -1);
        sheet.row("order(0, i)", i -> x.order(0, i), 5, 1, 2, -1);
        sheet.due("till(0, 1)", x.till(0, 1), 11);
        sheet.due("till(0, 5)", x.till(0, 5), 10);
        // 8 * 9 / 24 and 8 * 15 / 24.
        sheet.row("parted(0, person)", person -> x.parted(0, person), -1, 3, 5, -1, -1, 8, -1);
        sheet.due("by the law of now", x.look(x.pass(0, 0, 9, 1, SALE, 1, 1), 8), 1);
    }

    private static FirstComer fortyPassings() {
        FirstComer x = Told.parcels(2, "first side on sale within 1;");
        x.beside(0, 1, 0);
        for (int i = 0; i < 40; i++) {
            x.pass(0, i % 2 == 0 ? 0 : 9, i % 2 == 0 ? 9 : 0, 12, SALE, i, i);
        }
        return x;
    }

    static void fortyAreThere() {
        sheet.sentence(14, "40 are there");
        FirstComer x = Told.parcels(1);
        for (int i = 0; i < 40; i++) {
            sheet.due("the number", x.pass(0, i % 2 == 0 ? 0 : 9, i % 2 == 0 ? 9 : 0, 12, SALE, i, 0), i);
            sheet.due("so many", x.count(2), i + 1);
        }
        for (int i = 0; i < 40; i++) {
            sheet.due("each one's price", x.look(i, 5), i);
        }
        sheet.refused(PassingEdgesTest::fortyPassings, "the 41st", -1, v -> v.pass(0, 0, 9, 12, SALE, 1, 1));
        sheet.refused(PassingEdgesTest::fortyPassings, "the 41st, a gift", -1, v -> v.pass(1, 1, 9, 1, GIFT, 0, 0));
    }

    static void fortyAndBack() {
        sheet.sentence(14, "PASSINGS, 40 at most");
        FirstComer x = Told.parcels(1);
        for (int i = 0; i < 39; i++) {
            x.pass(0, i % 2 == 0 ? 0 : 9, i % 2 == 0 ? 9 : 0, 12, SALE, i, 0);
        }
        x.mark(0, false);
        sheet.due("the 40th", x.pass(0, 9, 0, 12, SALE, 77, 0), 39);
        sheet.due("the 41st", x.pass(0, 0, 9, 12, SALE, 0, 0), -1);
        x.mark(0, true);
        sheet.due("the 40th again", x.pass(0, 9, 3, 1, SALE, 78, 0), 39);
        sheet.due("it is another one", x.look(39, 5), 78);
        sheet.due("the 41st", x.pass(0, 9, 0, 1, SALE, 0, 0), -1);
    }

    // Promise 14: the facts

    /** The fact has this value at a passing, the buyer being asked about. */
    private static void factIs(FirstComer x, String fact, int want, int... deal) {
        sheet.due("law() with " + fact, Told.law(x, "free when " + fact + "=" + want + ";"), 0);
        int passing = x.pass(deal[0], deal[1], deal[2], deal[3], deal[4], deal[5], deal[6]);
        sheet.due(fact + " is " + want, Sheet.look(x, passing, 8), 1);
        x.part(deal[0], deal[2], deal[1], deal[3]);
    }

    static void whatThePassingSays() {
        sheet.sentence(14, "Facts, all as ahead of it: n, price, paid");
        FirstComer x = Told.parcels(1);
        for (int n = 1; n <= 12; n++) {
            factIs(x, "n", n, 0, 0, 1, n, SALE, 0, 0);
        }
        factIs(x, "price", 0, 0, 0, 1, 1, SALE, 0, 9999);
        factIs(x, "price", 9999, 0, 0, 1, 1, SWAP, 9999, 0);
        factIs(x, "paid", 0, 0, 0, 1, 1, SALE, 9999, 0);
        factIs(x, "paid", 9999, 0, 0, 1, 1, SWAP, 0, 9999);
        factIs(x, "price+paid", 0, 0, 0, 1, 1, GIFT, 0, 0);
    }

    static void whatTheSellerWillHold() {
        sheet.sentence(14, "keeps: TWELFTHS of the PARCEL that the seller will hold then; estate: of all PARCELS that he will");
        FirstComer x = Told.parcels(1);
        factIs(x, "keeps", 0, 0, 0, 1, 12, SALE, 0, 0);
        factIs(x, "keeps", 11, 0, 0, 1, 1, SALE, 0, 0);
        factIs(x, "estate", 0, 0, 0, 1, 12, SALE, 0, 0);
        factIs(x, "estate", 11, 0, 0, 1, 1, SALE, 0, 0);
        FirstComer y = new FirstComer();
        for (int parcel = 0; parcel < 12; parcel++) {
            y.parcel(parcel, 3);
        }
        factIs(y, "estate", 143, 11, 3, 4, 1, SALE, 0, 0);
        factIs(y, "estate", 132, 0, 3, 4, 12, SALE, 0, 0);
        factIs(y, "keeps", 0, 0, 3, 4, 12, SALE, 0, 0);
    }

    static void whatTheBuyerHas() {
        sheet.sentence(14, "has: PARCELS of which the buyer holds some");
        FirstComer x = Told.parcels(12);
        factIs(x, "has", 0, 0, 0, 15, 12, SALE, 0, 0);
        for (int parcel = 0; parcel < 12; parcel++) {
            x.part(parcel, parcel, 15, 1);
            factIs(x, "has", parcel + 1, 0, 0, 15, 1, SALE, 0, 0);
        }
        x.part(3, 15, 3, 1);
        factIs(x, "has", 11, 0, 0, 15, 11, SALE, 0, 0);
    }

    static void oneForItsForm() {
        sheet.sentence(14, "sale, gift, swap: 1 for its FORM");
        FirstComer x = Told.parcels(1);
        String[] forms = {"sale", "gift", "swap"};
        for (int form = 0; form < 3; form++) {
            for (int fact = 0; fact < 3; fact++) {
                factIs(x, forms[fact], fact == form ? 1 : 0, 0, 0, 1, 1, form, 0, 0);
            }
        }
    }

    static void whatTheOneAskedAboutHolds() {
        sheet.sentence(14, "need, holds (TWELFTHS of the PARCEL), owns (PARCELS of which some), degree (in which he is KIN of the seller; 0): those of the one who is asked about");
        FirstComer x = Told.parcels(12);
        factIs(x, "holds", 0, 0, 0, 15, 12, SALE, 0, 0);
        factIs(x, "owns", 0, 0, 0, 15, 12, SALE, 0, 0);
        factIs(x, "need", 0, 0, 0, 15, 12, SALE, 0, 0);
        factIs(x, "degree", 0, 0, 0, 15, 12, SALE, 0, 0);
        x.need(15, true);
        factIs(x, "need", 1, 0, 0, 15, 1, SALE, 0, 0);
        for (int degree = 0; degree <= 3; degree++) {
            x.kin(15, 0, degree);
            factIs(x, "degree", degree, 0, 0, 15, 1, SALE, 0, 0);
        }
        for (int held = 1; held <= 11; held++) {
            x.part(0, 0, 15, 1);
            factIs(x, "holds", held, 0, 0, 15, 1, SALE, 0, 0);
        }
        FirstComer y = Told.parcels(12, "first share on sale within 1 when owns=12;");
        for (int parcel = 0; parcel < 12; parcel++) {
            sheet.due("owns " + parcel, y.would(0, 0, 9, 1, SALE, 0, 0), 0);
            y.part(parcel, parcel, 15, 1);
        }
        sheet.due("owns 12", y.would(0, 0, 9, 1, SALE, 0, 0), 1 << 15);
    }

    static void theDayIsNow() {
        sheet.sentence(14, "day: NOW.");
        FirstComer x = Told.parcels(1);
        factIs(x, "day", 0, 0, 0, 1, 1, SALE, 0, 0);
        for (int i = 0; i < 9; i++) {
            x.days(1000);
        }
        x.days(999);
        factIs(x, "day", 9999, 0, 0, 1, 1, SALE, 0, 0);
    }

    // Promise 15

    static void wouldByAForm() {
        sheet.sentence(15, "NONE: as of pass(), but for 40.");
        refusesForms("would", FirstComer::would);
        refusesPrices("would", FirstComer::would);
        refusesGiftsWithAPrice("would", FirstComer::would);
        refusesOthers("would", FirstComer::would);
        refusesWhatIsNotHeld("would", FirstComer::would);
    }

    static void wouldBehindForty() {
        sheet.sentence(15, "but for 40");
        sheet.refused(PassingEdgesTest::fortyPassings, "behind 40", 2, v -> v.would(0, 0, 9, 12, SALE, 1, 1));
        sheet.refused(PassingEdgesTest::fortyPassings, "what is not held", -1, v -> v.would(0, 9, 0, 1, SALE, 1, 1));
    }

    static void wouldChangesNothing() {
        sheet.sentence(15, "Who MAY come first if that were passed now, as bits");
        sheet.refused("a neighbour and kin", 1 << 1 | 1 << 2 | 1 << 7 | 1 << 8 | 1 << 9, v -> v.would(0, 0, 5, 1, SALE, 5, 5));
        FirstComer x = Told.parcels(1, "first kin on sale within 1;");
        sheet.due("nobody", x.would(0, 0, 15, 12, SALE, 0, 0), 0);
        for (int person = 1; person < 16; person++) {
            x.kin(0, person, 1);
        }
        sheet.due("the buyer is kin, too", x.would(0, 0, 15, 12, SALE, 0, 0), 0);
        x.kin(0, 15, 0);
        sheet.due("all but seller and buyer", x.would(0, 0, 15, 12, SALE, 0, 0), 0x7FFE);
    }

    static void freeIfNotZero() {
        sheet.sentence(15, "It is FREE if a free LINE's E is not 0, the buyer being asked about.");
        String[] free = {"0", "1", "2", "0-1", "1-1"};
        long[] is = {0, 1, 1, 1, 0};
        for (int i = 0; i < free.length; i++) {
            FirstComer x = Told.parcels(2, "first side on sale within 1;free when " + free[i] + ";");
            x.beside(0, 1, 0);
            sheet.due("free when " + free[i], x.would(0, 0, 9, 1, SALE, 0, 0), is[i] == 1 ? 0 : 2);
            x.pass(0, 0, 9, 1, SALE, 0, 0);
            sheet.due("free when " + free[i], x.look(0, 8), is[i]);
            sheet.due("nobody may then", x.may(0, 1), is[i] == 1 ? -1 : 0);
        }
        FirstComer y = Told.parcels(2, "free when 0;first side on sale within 1;free when holds=2;free when 0;");
        y.beside(0, 1, 0);
        y.part(0, 0, 1, 2);
        sheet.due("the one who may holds 2, not the buyer", y.would(0, 0, 9, 1, SALE, 0, 0), 2);
        y.part(0, 0, 9, 2);
        sheet.due("the buyer holds 2", y.would(0, 0, 9, 1, SALE, 0, 0), 0);
    }

    static void theSellerHasNoRank() {
        sheet.sentence(15, "RANK of one of the PEOPLE (the seller has none)");
        FirstComer x = Told.parcels(3, "first share on sale within 1;first side on sale within 1;first water on sale within 1;");
        x.beside(0, 1, 0);
        x.water(0, 2);
        x.part(1, 1, 0, 12);
        x.part(2, 2, 0, 12);
        sheet.due("he stands as share, side and water", x.stands(0, 0, 0), 14);
        sheet.due("all goes", x.would(0, 0, 9, 12, SALE, 0, 0), 0);
        sheet.due("one goes", x.would(0, 0, 9, 1, SALE, 0, 0), 0);
    }

    static void theFirstOfTheLines() {
        sheet.sentence(15, "the first of the LINES with first (numbered from 0 among those in force) that has the FORM, as whose WHO he STANDS, and whose E is not 0 (or that has none), he being asked about");
        FirstComer x = Told.parcels(2);
        x.beside(0, 1, 0);
        x.kin(0, 1, 2);
        String side = "first side on sale within 1;";
        for (int i = 0; i < 11; i++) {
            String idle = i % 4 == 0 ? "first side on gift swap within 1;" : i % 4 == 1 ? "first water on sale within 1;" : i % 4 == 2 ? "first side on sale within 1 when 0;" : "first kin on sale within 1 when degree=1;";
            side = idle + "maybe first side on sale within 1;".repeat(i < 6 ? 1 : 0) + side;
            sheet.due("law()", Told.law(x, side), 0);
            int passing = x.pass(0, 0, 9, 1, SALE, 0, 0);
            sheet.due("the rank", x.may(passing, 1), i + 1);
            x.part(0, 9, 0, 1);
        }
        sheet.due("a negative condition", Told.law(x, "first side on sale within 1 when 0;first side on sale within 1 when 1-2;"), 0);
        sheet.due("is so", x.may(x.pass(0, 0, 9, 1, SALE, 0, 0), 1), 1);
    }

    static void theBuyerHasNoneLessOrTheSame() {
        sheet.sentence(15, "He MAY come first if it is not FREE, he is not the buyer, has a RANK, and the buyer has none that is less or the same.");
        FirstComer x = Told.parcels(4, "first kin on sale within 1;first side on sale within 1;first water on sale within 1;");
        x.kin(0, 5, 1);
        x.beside(0, 1, 0);
        x.beside(0, 2, 0);
        x.water(0, 3);
        sheet.due("the buyer has none", x.would(0, 0, 9, 1, SALE, 0, 0), 1 << 1 | 1 << 2 | 1 << 3 | 1 << 5);
        sheet.due("the buyer has the last one", x.would(0, 0, 3, 1, SALE, 0, 0), 1 << 1 | 1 << 2 | 1 << 5);
        sheet.due("the buyer has the same", x.would(0, 0, 2, 1, SALE, 0, 0), 1 << 5);
        sheet.due("the buyer has the same", x.would(0, 0, 1, 1, SALE, 0, 0), 1 << 5);
        sheet.due("the buyer has the least", x.would(0, 0, 5, 1, SALE, 0, 0), 0);
    }

    static void maybeIsNotInForce() {
        sheet.sentence(15, "LINES with maybe are not in force (but see 5).");
        FirstComer x = Told.parcels(2, "maybe first side on sale gift swap within 1;maybe free when 1;");
        x.beside(0, 1, 0);
        sheet.due("nobody may", x.would(0, 0, 9, 1, SALE, 0, 0), 0);
        x.pass(0, 0, 9, 1, SALE, 0, 0);
        sheet.due("it is not free", x.look(0, 8), 0);
        sheet.due("lines in force", x.count(4), 0);
    }

    // Promise 16

    static void whatZeroToEleven() {
        sheet.sentence(16, "Of a PASSING, what 0: its PARCEL, 1: seller, 2: buyer, 3: TWELFTHS, 4: FORM, 5: price told, 6: paid, 7: its DAY, 8: 1 if it was FREE, 9: the buyer's RANK (NONE: none), 10: by whom it was TAKEN (NONE: not), 11: the price asked of who comes.");
        FirstComer x = new FirstComer();
        x.parcel(11, 15);
        x.parcel(10, 14);
        x.beside(11, 10, 3);
        Told.law(x, "price paid;first kin on swap within 1;first side on swap within 1;");
        x.kin(15, 0, 1);
        x.days(1000);
        x.pass(11, 15, 14, 12, SWAP, 9999, 9998);
        sheet.row("look(0, what)", what -> x.look(0, what), 11, 15, 14, 12, 2, 9999, 9998, 1000, 0, 1, -1, 9998);
        x.claim(0, 0, 9998);
        sheet.row("look(0, what)", what -> x.look(0, what), 11, 15, 14, 12, 2, 9999, 9998, 1000, 0, 1, 0, 9998);
    }

    static void noneSuchToLookAt() {
        sheet.sentence(16, "NoSuchElementException: none such.");
        for (int passing : NO_PASSINGS) {
            for (int what = 0; what < 12; what += 11) {
                int asked = what;
                sheet.refused("look(" + passing + ", " + what + ")", Sheet.THROWN, v -> Sheet.look(v, passing, asked));
            }
        }
        for (int what : new int[] {-1, 12, 13, 32, Integer.MIN_VALUE, Integer.MAX_VALUE}) {
            sheet.refused("look(0, " + what + ")", Sheet.THROWN, v -> Sheet.look(v, 0, what));
            sheet.refused("look(3, " + what + ")", Sheet.THROWN, v -> Sheet.look(v, 3, what));
            sheet.refused("look(4, " + what + ")", Sheet.THROWN, v -> Sheet.look(v, 4, what));
        }
        FirstComer x = new FirstComer();
        sheet.due("of none at all", Sheet.look(x, 0, 0), Sheet.THROWN);
        FirstComer y = fortyPassings();
        sheet.due("the 40th", Sheet.look(y, 39, 11), 39);
        sheet.due("the 41st", Sheet.look(y, 40, 11), Sheet.THROWN);
    }

    // Promises 17 and 18

    static void heMayNot() {
        sheet.sentence(17, "The RANK by which one MAY come first at a PASSING; NONE: he MAY not, none such.");
        for (int passing : NO_PASSINGS) {
            sheet.refused("may(" + passing + ", 8)", -1, v -> v.may(passing, 8));
        }
        for (int person : Sheet.NO_PEOPLE) {
            sheet.refused("may(0, " + person + ")", -1, v -> v.may(0, person));
        }
        FirstComer x = Midst.village();
        sheet.row("may(0, person)", person -> x.may(0, person), -1, 1, 1, -1, -1, -1, -1, 1, 0, 0, -1, -1, -1, -1, -1, -1);
        sheet.row("may(3, person), it was free", person -> x.may(3, person), -1, -1, -1, -1, -1, -1, -1, -1, -1, -1, -1, -1, -1, -1, -1, -1);
    }

    static void theLastRank() {
        sheet.sentence(17, "The RANK by which one MAY come first at a PASSING");
        FirstComer x = Told.parcels(1, Told.times(11, "first kin on sale within 1 when degree=1;") + "first kin on sale within 5;");
        x.kin(0, 15, 2);
        x.pass(0, 0, 1, 1, SALE, 0, 0);
        sheet.due("may(0, 15)", x.may(0, 15), 11);
        sheet.due("order(0, 0)", x.order(0, 0), 15);
        x.hears(0, 15, 0);
        sheet.due("its days", x.till(0, 15), 5);
    }

    static void byRanksThenByNumbers() {
        sheet.sentence(18, "The i-th who MAY, by RANKS, then by numbers; NONE: none such.");
        FirstComer x = Told.parcels(1, "first kin on sale within 1 when degree=2;first kin on sale within 1;");
        for (int person = 1; person < 15; person++) {
            x.kin(0, person, person < 8 ? 3 : 2);
        }
        x.pass(0, 0, 15, 1, SALE, 0, 0);
        sheet.row("order(0, i)", i -> x.order(0, i), 8, 9, 10, 11, 12, 13, 14, 1, 2, 3, 4, 5, 6, 7, -1, -1, -1);
        FirstComer y = Told.parcels(1);
        y.pass(0, 0, 15, 1, SALE, 0, 0);
        sheet.due("nobody may", y.order(0, 0), -1);
    }

    static void theFirstAndTheLastOfThePeople() {
        sheet.sentence(18, "The i-th who MAY, by RANKS, then by numbers");
        FirstComer x = new FirstComer();
        x.parcel(0, 7);
        Told.law(x, "first kin on sale within 1 when degree=1;first kin on sale within 1;");
        x.kin(7, 0, 1);
        x.kin(7, 15, 1);
        x.kin(7, 3, 2);
        x.pass(0, 7, 8, 3, SALE, 0, 0);
        sheet.row("order(0, i)", i -> x.order(0, i), 0, 15, 3, -1);
        sheet.due("parted(0, 0)", x.parted(0, 0), 2);
        sheet.due("parted(0, 15)", x.parted(0, 15), 1);
        sheet.due("parted(0, 3)", x.parted(0, 3), 3);
        x.waive(0, 15);
        sheet.due("0 is of a lesser rank", x.claim(0, 3, 0), 3);
        x.waive(0, 0);
        sheet.due("nobody is any more", x.claim(0, 3, 0), 0);
        x.pass(0, 7, 8, 3, SALE, 0, 0);
        x.waive(1, 0);
        sheet.due("15 is of a lesser rank", x.claim(1, 3, 0), 3);
        sheet.due("15 takes it", x.claim(1, 15, 0), 0);
    }

    static void noneSuchInOrder() {
        sheet.sentence(18, "NONE: none such");
        for (int i : new int[] {-1, 5, 6, 16, 40, Integer.MIN_VALUE, Integer.MAX_VALUE}) {
            sheet.refused("order(0, " + i + ")", -1, v -> v.order(0, i));
        }
        for (int passing : NO_PASSINGS) {
            sheet.refused("order(" + passing + ", 0)", -1, v -> v.order(passing, 0));
        }
        FirstComer x = Midst.village();
        sheet.row("order(0, i)", i -> x.order(0, i), 8, 9, 1, 2, 7, -1);
    }

    // Promises 19 and 20

    static void notAheadOfItNotBehindNow() {
        sheet.sentence(19, "One HEARS of it on a DAY, not ahead of it, not behind NOW (told once).");
        for (int day : new int[] {5, 6, 8, 9}) {
            FirstComer x = Midst.village();
            sheet.yes("hears(0, 2, " + day + ")", x.hears(0, 2, day));
            sheet.due("and two more", x.till(0, 2), day + 2);
            sheet.no("told once", x.hears(0, 2, day));
            sheet.no("told once", x.hears(0, 2, 9));
            sheet.due("the first one stays", x.till(0, 2), day + 2);
        }
        for (int day : new int[] {4, 0, -1, 10, 9999, Integer.MIN_VALUE, Integer.MAX_VALUE}) {
            sheet.refused("hears(0, 2, " + day + ")", 0, v -> Sheet.bit(v.hears(0, 2, day)));
        }
    }

    static void heDidHear() {
        sheet.sentence(19, "One HEARS of a PASSING on a DAY: true; false: others, he did.");
        sheet.refused("hears(0, 8, 6) again", 0, v -> Sheet.bit(v.hears(0, 8, 6)));
        sheet.refused("hears(0, 8, 9), another day", 0, v -> Sheet.bit(v.hears(0, 8, 9)));
        for (int passing : NO_PASSINGS) {
            sheet.refused("hears(" + passing + ", 2, 9)", 0, v -> Sheet.bit(v.hears(passing, 2, 9)));
        }
        for (int person : Sheet.NO_PEOPLE) {
            sheet.refused("hears(0, " + person + ", 9)", 0, v -> Sheet.bit(v.hears(0, person, 9)));
        }
    }

    static void eachOfThePeopleHearsAndWaives() {
        sheet.sentence(19, "One HEARS of a PASSING on a DAY");
        FirstComer x = new FirstComer();
        x.parcel(0, 7);
        Told.law(x, "first kin on sale within 100;");
        for (int person = 0; person < 16; person++) {
            x.kin(7, person, person == 8 ? 0 : 1);
        }
        x.pass(0, 7, 8, 1, SALE, 0, 0);
        x.days(20);
        for (int person = 0; person < 16; person++) {
            boolean may = person != 7 && person != 8;
            sheet.due("did not hear", x.till(0, person), -1);
            sheet.yes("hears(0, " + person + ")", x.hears(0, person, 20 - person));
            sheet.due("till", x.till(0, person), may ? 120 - person : -1);
            sheet.due("waive(0, " + person + ")", Sheet.bit(x.waive(0, person)), may ? 1 : 0);
        }
        for (int person = 0; person < 16; person++) {
            boolean may = person != 7 && person != 8;
            sheet.no("told once", x.hears(0, person, 20));
            sheet.due("till stays", x.till(0, person), may ? 120 - person : -1);
            sheet.no("waived once", x.waive(0, person));
            sheet.due("his claim", x.claim(0, person, 9), 1);
        }
        sheet.due("not taken", x.look(0, 10), -1);
        sheet.due("paid", x.look(0, 6), 0);
    }

    static void hearsOnTheFirstAndTheLastDay() {
        sheet.sentence(19, "not ahead of it, not behind NOW");
        FirstComer x = Told.parcels(1, "first kin on sale within 999;");
        x.kin(0, 1, 1);
        x.kin(0, 2, 1);
        x.pass(0, 0, 9, 1, SALE, 0, 0);
        sheet.no("day 1 on day 0", x.hears(0, 1, 1));
        sheet.yes("day 0 on day 0", x.hears(0, 1, 0));
        sheet.due("till", x.till(0, 1), 999);
        for (int i = 0; i < 9; i++) {
            x.days(1000);
        }
        x.days(999);
        sheet.no("day 10000", x.hears(0, 2, 10000));
        sheet.yes("day 9999", x.hears(0, 2, 9999));
        sheet.due("till", x.till(0, 2), 10998);
        x.pass(0, 0, 9, 1, SALE, 0, 0);
        sheet.no("ahead of the last day", x.hears(1, 2, 9998));
        sheet.yes("the last day", x.hears(1, 2, 9999));
    }

    static void theLastDayInTime() {
        sheet.sentence(20, "The last DAY on which one who MAY is in time; NONE: he MAY not, did not HEAR.");
        sheet.refused("till(0, 2), did not hear", -1, v -> v.till(0, 2));
        sheet.refused("till(0, 5), may not", -1, v -> v.till(0, 5));
        sheet.refused("till(3, 8), nobody may", -1, v -> v.till(3, 8));
        for (int passing : NO_PASSINGS) {
            sheet.refused("till(" + passing + ", 8)", -1, v -> v.till(passing, 8));
        }
        for (int person : Sheet.NO_PEOPLE) {
            sheet.refused("till(0, " + person + ")", -1, v -> v.till(0, person));
        }
        FirstComer x = Midst.village();
        sheet.due("heard on 6, within 4", x.till(0, 8), 10);
        sheet.due("heard on 7, within 2", x.till(0, 1), 9);
        sheet.yes("one who may not hears", x.hears(0, 5, 9));
        sheet.due("but may not", x.till(0, 5), -1);
        sheet.yes("one who waived hears", x.hears(0, 9, 9));
        sheet.due("he may all the same", x.till(0, 9), 13);
    }

    // Promise 21

    static void oneWhoMayWaives() {
        sheet.sentence(21, "One who MAY WAIVES: true; false: he MAY not, did already.");
        sheet.refused("waive(0, 9), did already", 0, v -> Sheet.bit(v.waive(0, 9)));
        sheet.refused("waive(0, 0), the seller", 0, v -> Sheet.bit(v.waive(0, 0)));
        sheet.refused("waive(0, 10), the buyer", 0, v -> Sheet.bit(v.waive(0, 10)));
        sheet.refused("waive(0, 5), he may not", 0, v -> Sheet.bit(v.waive(0, 5)));
        sheet.refused("waive(3, 8), it was free", 0, v -> Sheet.bit(v.waive(3, 8)));
        for (int passing : NO_PASSINGS) {
            sheet.refused("waive(" + passing + ", 8)", 0, v -> Sheet.bit(v.waive(passing, 8)));
        }
        for (int person : Sheet.NO_PEOPLE) {
            sheet.refused("waive(0, " + person + ")", 0, v -> Sheet.bit(v.waive(0, person)));
        }
    }

    static void allWaive() {
        sheet.sentence(21, "He may WAIVE it.");
        FirstComer x = Told.parcels(1, "first kin on sale within 1;");
        for (int person = 1; person < 15; person++) {
            x.kin(0, person, 1);
        }
        x.pass(0, 0, 15, 1, SALE, 0, 0);
        for (int person = 1; person < 15; person++) {
            sheet.due("ahead of it", x.claim(0, person, -1), -1);
            sheet.yes("waive(0, " + person + ")", x.waive(0, person));
            sheet.no("again", x.waive(0, person));
            sheet.due("he waived", x.claim(0, person, 9999), 1);
            sheet.due("he may still, by his rank", x.may(0, person), 0);
        }
        sheet.due("not taken", x.look(0, 10), -1);
    }

    // Promise 22

    static void provenZeroTo9999() {
        sheet.sentence(22, "It is proven what was paid (0 to 9999; not of a gift, of one that is TAKEN): true; false: others.");
        for (int paid : new int[] {0, 1, 9998, 9999}) {
            FirstComer x = Midst.village();
            sheet.yes("truly(0, " + paid + ")", x.truly(0, paid));
            sheet.due("paid", x.look(0, 6), paid);
            sheet.due("asked", x.look(0, 11), paid);
            sheet.due("told", x.look(0, 5), 30);
        }
        for (int paid : Sheet.NO_PRICES) {
            sheet.refused("truly(0, " + paid + ")", 0, v -> Sheet.bit(v.truly(0, paid)));
        }
        for (int passing : NO_PASSINGS) {
            sheet.refused("truly(" + passing + ", 1)", 0, v -> Sheet.bit(v.truly(passing, 1)));
        }
    }

    static void notOfAGift() {
        sheet.sentence(22, "not of a gift");
        Supplier<FirstComer> gift = () -> {
            FirstComer x = Midst.village();
            x.pass(11, 15, 0, 1, GIFT, 0, 0);
            return x;
        };
        sheet.refused(gift, "truly(4, 0)", 0, v -> Sheet.bit(v.truly(4, 0)));
        sheet.refused(gift, "truly(4, 1)", 0, v -> Sheet.bit(v.truly(4, 1)));
        FirstComer x = Midst.village();
        x.pass(11, 15, 0, 1, SWAP, 0, 0);
        sheet.yes("of a swap", x.truly(4, 1));
    }

    static void notOfOneThatIsTaken() {
        sheet.sentence(22, "of one that is TAKEN");
        Supplier<FirstComer> taken = () -> {
            FirstComer x = Midst.village();
            x.claim(0, 8, 25);
            return x;
        };
        sheet.due("it is taken", taken.get().look(0, 10), 8);
        sheet.refused(taken, "truly(0, 25)", 0, v -> Sheet.bit(v.truly(0, 25)));
        sheet.refused(taken, "truly(0, 1)", 0, v -> Sheet.bit(v.truly(0, 1)));
    }

    static void whoMayStays() {
        sheet.sentence(22, "(Who MAY stays.)");
        FirstComer x = Told.parcels(2, "price paid;first side on sale within 1 when paid=8;free when paid=3;");
        x.beside(0, 1, 0);
        x.pass(0, 0, 9, 1, SALE, 10, 8);
        x.truly(0, 3);
        sheet.due("he may", x.may(0, 1), 0);
        sheet.due("not free", x.look(0, 8), 0);
        sheet.due("2 is too little", x.claim(0, 1, 2), 4);
        sheet.due("3 is enough", x.claim(0, 1, 3), 0);
    }

    // Promise 23

    /** On day 5: kin 5 and 6 (rank 0), side 1 (rank 1), water 2 (rank 2); price told 10, paid 8; nobody has heard. */
    private static FirstComer claimed() {
        FirstComer x = Told.parcels(3, "price paid;first kin on sale within 2;first side on sale within 2;first water on sale within 2;");
        x.kin(0, 5, 1);
        x.kin(0, 6, 1);
        x.beside(0, 1, 0);
        x.water(0, 2);
        x.pass(0, 0, 9, 6, SALE, 10, 8);
        x.days(5);
        return x;
    }

    /** A claim that is not 0 answers so and changes nothing. */
    private static void lost(Supplier<FirstComer> village, int person, int coin, int want) {
        sheet.refused(village, "claim(0, " + person + ", " + coin + ")", want, v -> v.claim(0, person, coin));
    }

    static void noSuchPassingPersonCoin() {
        sheet.sentence(23, "A CLAIM: 0 to 6; NONE: no such PASSING, PERSON, coin below 0.");
        for (int passing : NO_PASSINGS) {
            sheet.refused("claim(" + passing + ", 8, 99)", -1, v -> v.claim(passing, 8, 99));
        }
        for (int person : Sheet.NO_PEOPLE) {
            sheet.refused("claim(0, " + person + ", 99)", -1, v -> v.claim(0, person, 99));
        }
        for (int coin : new int[] {-1, -2, Integer.MIN_VALUE}) {
            sheet.refused("claim(0, 8, " + coin + ")", -1, v -> v.claim(0, 8, coin));
            sheet.refused("claim(0, 5, " + coin + "), who may not", -1, v -> v.claim(0, 5, coin));
        }
        FirstComer x = Told.parcels(2, "first side on sale within 1;");
        x.beside(0, 1, 0);
        x.pass(0, 0, 9, 1, SALE, 0, 0);
        x.pass(0, 0, 9, 1, SALE, 9999, 0);
        sheet.due("no coin", x.claim(0, 1, 0), 0);
        sheet.due("all coin", x.claim(1, 1, Integer.MAX_VALUE), 0);
    }

    static void heMayNotOrWaived() {
        sheet.sentence(23, "1 he MAY not, or WAIVED");
        for (int person : new int[] {0, 3, 9, 15}) {
            lost(PassingEdgesTest::claimed, person, 99, 1);
            lost(PassingEdgesTest::claimed, person, 0, 1);
        }
        Supplier<FirstComer> waived = () -> {
            FirstComer x = claimed();
            x.waive(0, 5);
            return x;
        };
        lost(waived, 5, 99, 1);
        lost(waived, 5, 0, 1);
        FirstComer x = waived.get();
        sheet.due("another of his rank", x.claim(0, 6, 8), 0);
    }

    static void itWasTaken() {
        sheet.sentence(23, "6 it was TAKEN");
        Supplier<FirstComer> taken = () -> {
            FirstComer x = claimed();
            x.claim(0, 5, 8);
            return x;
        };
        for (int person = 0; person < 16; person++) {
            lost(taken, person, 0, 6);
            lost(taken, person, Integer.MAX_VALUE, 6);
        }
        sheet.refused(taken, "coin below 0", -1, v -> v.claim(0, 5, -1));
    }

    static void heIsLate() {
        sheet.sentence(23, "2 he is late");
        for (int heard = 0; heard <= 2; heard++) {
            int day = heard;
            lost(() -> {
                FirstComer x = claimed();
                x.hears(0, 5, day);
                return x;
            }, 5, 99, 2);
        }
        FirstComer x = claimed();
        x.hears(0, 5, 3);
        sheet.due("heard on day 3 of 5, within 2", x.claim(0, 5, 8), 0);
    }

    static void aheadOfLate() {
        sheet.sentence(23, "A CLAIM on the DAY NOW with so much coin is judged, the first that holds");
        Supplier<FirstComer> all = () -> {
            FirstComer x = claimed();
            x.hears(0, 2, 0);
            x.part(0, 9, 8, 1);
            return x;
        };
        lost(all, 2, 0, 2);
        Supplier<FirstComer> waived = () -> {
            FirstComer x = all.get();
            x.waive(0, 2);
            return x;
        };
        lost(waived, 2, 0, 1);
        Supplier<FirstComer> taken = () -> {
            FirstComer x = all.get();
            x.part(0, 8, 9, 1);
            x.waive(0, 5);
            x.claim(0, 6, 8);
            return x;
        };
        lost(taken, 2, 0, 6);
        lost(taken, 5, 99, 6);
        lost(taken, 6, 99, 6);
        lost(taken, 9, 0, 6);
        lost(taken, 15, 0, 6);
    }

    static void inTimeUpToTheDay() {
        sheet.sentence(23, "He is in time up to the DAY on which he HEARD and so many DAYS (N) more; always, as long as he did not HEAR.");
        for (int heard = 0; heard <= 5; heard++) {
            FirstComer x = claimed();
            x.hears(0, 5, heard);
            sheet.due("heard on day " + heard + " of 5, within 2", x.claim(0, 5, 8), heard + 2 < 5 ? 2 : 0);
        }
        FirstComer y = Told.parcels(2, "first side on sale within 0;");
        y.beside(0, 1, 0);
        y.pass(0, 0, 9, 1, SALE, 0, 0);
        y.pass(0, 0, 9, 1, SALE, 0, 0);
        y.pass(0, 0, 9, 1, SALE, 0, 0);
        y.hears(0, 1, 0);
        y.hears(1, 1, 0);
        sheet.due("within 0, on the day", y.claim(0, 1, 0), 0);
        y.days(1);
        sheet.due("within 0, a day more", y.claim(1, 1, 0), 2);
        for (int i = 0; i < 9; i++) {
            y.days(1000);
        }
        y.days(998);
        sheet.due("did not hear", y.claim(2, 1, 0), 0);
    }

    static void oneOfALesserRank() {
        sheet.sentence(23, "3 one of a lesser RANK MAY, did not WAIVE and is not late");
        lost(PassingEdgesTest::claimed, 1, 99, 3);
        lost(PassingEdgesTest::claimed, 2, 0, 3);
        Supplier<FirstComer> oneLeft = () -> {
            FirstComer x = claimed();
            x.waive(0, 5);
            return x;
        };
        lost(oneLeft, 1, 99, 3);
        Supplier<FirstComer> inTime = () -> {
            FirstComer x = oneLeft.get();
            x.hears(0, 6, 3);
            return x;
        };
        lost(inTime, 1, 99, 3);
        Supplier<FirstComer> late = () -> {
            FirstComer x = oneLeft.get();
            x.hears(0, 6, 2);
            return x;
        };
        sheet.due("waived and late", late.get().claim(0, 1, 8), 0);
        lost(late, 2, 99, 3);
        FirstComer y = claimed();
        sheet.due("the same rank, and greater ones", y.claim(0, 6, 8), 0);
        FirstComer z = inTime.get();
        z.days(1);
        sheet.due("a day more", z.claim(0, 1, 8), 0);
    }

    static void lessCoinThanThePrice() {
        sheet.sentence(23, "4 less coin than the price (paid or told, by the LAW of then)");
        lost(PassingEdgesTest::claimed, 5, 7, 4);
        lost(PassingEdgesTest::claimed, 5, 0, 4);
        sheet.due("as much", claimed().claim(0, 5, 8), 0);
        sheet.due("more", claimed().claim(0, 5, 9), 0);
        FirstComer x = Told.parcels(2, "price told;first side on sale within 1;");
        x.beside(0, 1, 0);
        x.pass(0, 0, 9, 1, SALE, 10, 8);
        x.pass(0, 0, 9, 1, SALE, 10, 8);
        Told.law(x, "price paid;first side on sale within 1;");
        x.pass(0, 0, 9, 1, SALE, 10, 8);
        x.law();
        sheet.due("told, of then", x.claim(0, 1, 9), 4);
        sheet.due("told, of then", x.claim(0, 1, 10), 0);
        sheet.due("proven is not told", Sheet.bit(x.truly(1, 3)), 1);
        sheet.due("told, of then", x.claim(1, 1, 9), 4);
        sheet.due("paid, of then", x.claim(2, 1, 7), 4);
        sheet.due("paid, of then", x.claim(2, 1, 8), 0);
    }

    static void theBuyerDoesNotHoldThemAnyMore() {
        sheet.sentence(23, "5 the buyer does not hold n TWELFTHS of the PARCEL any more");
        Supplier<FirstComer> gone = () -> {
            FirstComer x = claimed();
            x.part(0, 9, 8, 1);
            return x;
        };
        lost(gone, 5, 8, 5);
        lost(gone, 5, 7, 4);
        Supplier<FirstComer> allGone = () -> {
            FirstComer x = claimed();
            x.part(0, 9, 5, 6);
            return x;
        };
        lost(allGone, 5, 8, 5);
        FirstComer x = gone.get();
        x.part(0, 0, 9, 1);
        sheet.due("he holds 6 again", x.claim(0, 5, 8), 0);
        sheet.due("he holds none now", x.holds(0, 9), 0);
        FirstComer y = claimed();
        y.part(0, 0, 9, 6);
        sheet.due("he holds 12", y.claim(0, 5, 8), 0);
        sheet.due("six stay", y.holds(0, 9), 6);
    }

    static void theyAreHis() {
        sheet.sentence(23, "else 0: they are his, it is TAKEN");
        FirstComer x = claimed();
        sheet.due("claim", x.claim(0, 6, 8), 0);
        sheet.due("his", x.holds(0, 6), 6);
        sheet.due("the buyer's", x.holds(0, 9), 0);
        sheet.due("the seller's", x.holds(0, 0), 6);
        sheet.due("taken by", x.look(0, 10), 6);
        sheet.due("taken", x.count(3), 1);
        sheet.due("no more passings", x.count(2), 1);
        sheet.due("once", x.claim(0, 6, 8), 6);
        sheet.due("person 0 may take, too", takenByTheFirst(), 0);
    }

    private static long takenByTheFirst() {
        FirstComer x = new FirstComer();
        x.parcel(0, 3);
        x.kin(3, 0, 1);
        Told.law(x, "first kin on gift within 1;");
        x.pass(0, 3, 9, 12, GIFT, 0, 0);
        x.claim(0, 0, 0);
        return x.look(0, 10);
    }

    // Promise 24

    static void toOneWhoMay() {
        sheet.sentence(24, "What falls to one who MAY if it is PARTED; NONE: he MAY not.");
        for (int passing : NO_PASSINGS) {
            sheet.refused("parted(" + passing + ", 8)", -1, v -> v.parted(passing, 8));
        }
        for (int person : Sheet.NO_PEOPLE) {
            sheet.refused("parted(0, " + person + ")", -1, v -> v.parted(0, person));
        }
        for (int person : new int[] {0, 3, 5, 10, 15}) {
            sheet.refused("parted(0, " + person + "), who may not", -1, v -> v.parted(0, person));
        }
        sheet.refused("parted(3, 8), it was free", -1, v -> v.parted(3, 8));
    }

    private static FirstComer kinOf(int kin, int n, String parts) {
        FirstComer x = Told.parcels(1, parts + "first kin on sale within 1;");
        for (int person = 1; person <= kin; person++) {
            x.kin(0, person, 1 + person % 3);
        }
        x.pass(0, 0, 15, n, SALE, 0, 0);
        return x;
    }

    static void byHeads() {
        sheet.sentence(24, "by heads: n / how many, cut");
        for (String parts : new String[] {"", "parts heads;", "parts shares;"}) {
            for (int kin = 1; kin <= 14; kin++) {
                for (int n = 1; n <= 12; n++) {
                    FirstComer x = kinOf(kin, n, parts);
                    int sum = 0;
                    for (int person = 1; person <= kin; person++) {
                        int his = n / kin + (person <= n % kin ? 1 : 0);
                        sheet.due(parts + n + " to " + person + " of " + kin, x.parted(0, person), his);
                        sum += x.parted(0, person);
                    }
                    sheet.due("all of it", sum, n);
                }
            }
        }
    }

    static void byShares() {
        sheet.sentence(24, "by shares: n * his / all of theirs, cut, his being the TWELFTHS that he held of the PARCEL (share), of those at its SIDES (side), joined to it by WATER (water), ahead of it, each PARCEL once; 1 of kin.");
        FirstComer x = Told.parcels(4, "parts shares;first share on sale within 1;first side on gift within 1;first water on swap within 1;");
        x.part(0, 0, 5, 1);
        x.part(0, 0, 6, 4);
        x.part(0, 0, 7, 4);
        x.pass(0, 0, 9, 1, SALE, 0, 0);
        sheet.due("1 * 1 / 9 and what is left", x.parted(0, 5), 1);
        sheet.due("1 * 4 / 9", x.parted(0, 6), 0);
        sheet.due("1 * 4 / 9", x.parted(0, 7), 0);
        x.part(0, 9, 0, 1);
        x.pass(0, 0, 9, 3, SALE, 0, 0);
        sheet.due("3 * 1 / 9 and what is left", x.parted(1, 5), 1);
        sheet.due("3 * 4 / 9", x.parted(1, 6), 1);
        sheet.due("3 * 4 / 9", x.parted(1, 7), 1);
        for (int side = 0; side < 4; side++) {
            x.beside(0, 1, side);
            x.water(0, 1);
        }
        x.beside(0, 2, 1);
        x.water(2, 0);
        x.part(2, 2, 1, 3);
        x.part(0, 9, 0, 3);
        x.pass(0, 0, 9, 3, GIFT, 0, 0);
        sheet.due("3 * 15 / 24 and what is left, each parcel once", x.parted(2, 1), 2);
        sheet.due("3 * 9 / 24", x.parted(2, 2), 1);
        x.part(0, 9, 0, 3);
        x.pass(0, 0, 9, 2, SWAP, 0, 0);
        sheet.due("2 * 15 / 24 and what is left", x.parted(3, 1), 2);
        sheet.due("2 * 9 / 24", x.parted(3, 2), 0);
        x.part(2, 1, 3, 3);
        x.part(1, 1, 3, 12);
        sheet.due("what he held ahead of it", x.parted(3, 1), 2);
        // Person 1 counts 4 of parcel 0, person 2 counts 12 of parcel 11; what they hold elsewhere is nothing to it.
        FirstComer y = new FirstComer();
        y.parcel(5, 5);
        y.parcel(0, 1);
        y.parcel(11, 2);
        y.parcel(6, 1);
        y.part(0, 1, 5, 8);
        Told.law(y, "parts shares;first side on sale within 1;first water on swap within 1;");
        for (int other = 0; other < 12; other += 11) {
            y.beside(5, other, 1);
            y.water(5, other);
        }
        y.pass(5, 5, 9, 4, SALE, 0, 0);
        y.pass(5, 5, 9, 4, SWAP, 0, 0);
        for (int passing = 0; passing < 2; passing++) {
            sheet.due("4 * 4 / 16", y.parted(passing, 1), 1);
            sheet.due("4 * 12 / 16", y.parted(passing, 2), 3);
        }
    }

    static void waivedOrNot() {
        sheet.sentence(24, "PARTED among all of his RANK who MAY (waived or not)");
        FirstComer x = kinOf(3, 7, "");
        x.waive(0, 1);
        sheet.row("parted(0, person)", person -> x.parted(0, person), -1, 3, 2, 2, -1);
        x.claim(0, 2, 0);
        sheet.row("parted(0, person), taken", person -> x.parted(0, person), -1, 3, 2, 2, -1);
        FirstComer y = Told.parcels(3, "first kin on sale within 1;first side on sale within 1;");
        y.kin(0, 5, 1);
        y.kin(0, 6, 1);
        y.beside(0, 1, 0);
        y.beside(0, 2, 0);
        y.pass(0, 0, 9, 5, SALE, 0, 0);
        sheet.row("each rank for itself", person -> y.parted(0, person), -1, 3, 2, -1, -1, 3, 2, -1);
    }

    static void whatIsLeft() {
        sheet.sentence(24, "What is left goes one by one to the first ones by numbers.");
        FirstComer x = Told.parcels(5, "parts shares;first side on sale within 1;");
        for (int other = 1; other < 5; other++) {
            x.beside(0, other, 0);
        }
        x.part(4, 4, 15, 11);
        x.pass(0, 0, 9, 11, SALE, 0, 0);
        // 11 * 12 / 48 is 2 for three of them, 11 * 1 / 48 is 0, 11 * 11 / 48 is 2: three are left.
        sheet.row("parted(0, person)", person -> x.parted(0, person), -1, 3, 3, 3, 0, -1, -1, -1, -1, -1, -1, -1, -1, -1, -1, 2);
    }
}
