/** Boundary cases of promises 1 to 9, 12 and 13: parcels, twelfths, sides, water, kin, need, care and days. */
public final class VillageEdgesTest {
    private static final int SALE = Told.SALE;
    private static final int[] NO_SIDES = {-1, 4, 5, -4, 32, Integer.MIN_VALUE, Integer.MAX_VALUE};
    private static final int[] NO_DEGREES = {-1, 4, 16, -3, Integer.MIN_VALUE, Integer.MAX_VALUE};
    private static final Sheet sheet = new Sheet(VillageEdgesTest.class);

    public static void main(String[] args) {
        sheet.run();
    }

    // Promise 1

    static void aNewOneHasNoParcel() {
        sheet.sentence(1, "No PARCEL, an empty LAW.");
        FirstComer x = new FirstComer();
        sheet.due("count(0)", x.count(0), 0);
        for (int parcel = 0; parcel < 12; parcel++) {
            for (int person = 0; person < 16; person++) {
                sheet.due("holds(" + parcel + ", " + person + ")", x.holds(parcel, person), -1);
            }
            sheet.due("stands", x.stands(parcel, 0, 1), -1);
            sheet.due("would", x.would(parcel, 0, 1, 1, SALE, 0, 0), -1);
            sheet.due("pass", x.pass(parcel, 0, 1, 1, SALE, 0, 0), -1);
            sheet.no("part", x.part(parcel, 0, 1, 1));
            sheet.no("beside", x.beside(parcel, (parcel + 1) % 12, 0));
            sheet.no("water", x.water(parcel, (parcel + 1) % 12));
            sheet.due("sly", x.sly(parcel, 0, 1, 0), -1);
        }
    }

    static void aNewOneHasAnEmptyLaw() {
        sheet.sentence(1, "an empty LAW");
        FirstComer x = Told.parcels(3);
        sheet.due("LINES in force", x.count(4), 0);
        sheet.due("LINES with maybe", x.count(5), 0);
        x.beside(0, 1, 0);
        x.water(0, 2);
        x.kin(0, 3, 1);
        x.part(0, 0, 4, 1);
        for (int form = 0; form < 3; form++) {
            sheet.due("nobody may by form " + form, x.would(0, 0, 9, 1, form, 0, 0), 0);
        }
        x.pass(0, 0, 1, 1, SALE, 5, 3);
        sheet.due("it is not free", x.look(0, 8), 0);
        sheet.due("the buyer has no rank", x.look(0, 9), -1);
        sheet.due("the price told is asked", x.look(0, 11), 5);
        sheet.due("no set is needed, but no set does", x.mended(0, 0, 9, 0, 0), -1);
    }

    static void noneIsMinusOne() {
        sheet.sentence(1, "The constants: `NONE = -1`: None.");
        sheet.due("NONE", FirstComer.NONE, -1);
        FirstComer x = new FirstComer();
        sheet.due("holds(0, 0)", x.holds(0, 0), FirstComer.NONE);
    }

    static void theLastCallThatIsPromised() {
        sheet.sentence(1, "An object is used for at most 512 calls after it has been made; what later calls answer is free.");
        FirstComer x = new FirstComer();
        sheet.yes("call 1", x.parcel(0, 0));
        for (int call = 2; call <= 509; call++) {
            boolean there = call % 2 == 0;
            sheet.yes("call " + call, x.part(0, there ? 0 : 15, there ? 15 : 0, 12));
        }
        sheet.due("call 510", x.holds(0, 0), 12);
        sheet.due("call 511", x.pass(0, 0, 1, 12, SALE, 1, 1), 0);
        sheet.due("call 512", x.holds(0, 1), 12);
    }

    static void aNewOneHasNothingElse() {
        sheet.sentence(1, "A new object");
        FirstComer x = new FirstComer();
        sheet.row("count", x::count, 0, 0, 0, 0, 0, 0, 0, 0, -1);
        for (int mark = 0; mark < 4; mark++) {
            sheet.no("nothing is on mark " + mark, x.mark(mark, true));
        }
        sheet.due("no passing", Sheet.look(x, 0, 0), Sheet.THROWN);
        sheet.row("far", what -> x.far(0, 9, 800, what), 0, 0, 0, -1);
    }

    static void newOnesAreApart() {
        sheet.sentence(1, "No PARCEL, an empty LAW.");
        FirstComer x = Midst.village();
        FirstComer y = new FirstComer();
        sheet.row("count of a new one", y::count, 0, 0, 0, 0, 0, 0, 0, 0);
        y.parcel(5, 5);
        sheet.due("told to the new one alone", x.holds(5, 5), -1);
        sheet.due("the other one's tape", x.count(7), 12);
    }

    // Promise 2

    static void parcelsZeroToEleven() {
        sheet.sentence(2, "THE VILLAGE has PARCELS 0 to 11");
        FirstComer x = new FirstComer();
        for (int parcel = 0; parcel < 12; parcel++) {
            sheet.yes("parcel(" + parcel + ", 3)", x.parcel(parcel, 3));
            sheet.due("so many are told", x.count(0), parcel + 1);
        }
        for (int parcel : Sheet.NO_PARCELS) {
            sheet.refused("parcel(" + parcel + ", 0)", 0, v -> Sheet.bit(v.parcel(parcel, 0)));
        }
    }

    static void peopleZeroToFifteen() {
        sheet.sentence(2, "PEOPLE 0 to 15");
        for (int owner = 0; owner < 16; owner++) {
            FirstComer x = new FirstComer();
            sheet.yes("parcel(0, " + owner + ")", x.parcel(0, owner));
            for (int person = 0; person < 16; person++) {
                sheet.due("holds(0, " + person + ")", x.holds(0, person), person == owner ? 12 : 0);
            }
        }
        for (int owner : Sheet.NO_PEOPLE) {
            sheet.refused("parcel(5, " + owner + ")", 0, v -> Sheet.bit(v.parcel(5, owner)));
        }
    }

    static void aParcelIsToldOnce() {
        sheet.sentence(2, "A PARCEL is told, once: one of the PEOPLE holds all of it: true; false: others, it is told.");
        sheet.refused("parcel(11, 15), told so", 0, v -> Sheet.bit(v.parcel(11, 15)));
        sheet.refused("parcel(11, 3), told of another", 0, v -> Sheet.bit(v.parcel(11, 3)));
        sheet.refused("parcel(0, 5), parted since", 0, v -> Sheet.bit(v.parcel(0, 5)));
        FirstComer x = new FirstComer();
        x.parcel(4, 4);
        x.part(4, 4, 5, 12);
        sheet.no("its owner holds none any more", x.parcel(4, 4));
        sheet.due("the other one holds it", x.holds(4, 5), 12);
    }

    static void allParcelsAreTold() {
        sheet.sentence(2, "A PARCEL is told, once");
        FirstComer x = Told.parcels(12);
        sheet.due("twelve", x.count(0), 12);
        for (int parcel = -1; parcel < 13; parcel++) {
            sheet.no("parcel(" + parcel + ", 15)", x.parcel(parcel, 15));
        }
        sheet.due("twelve still", x.count(0), 12);
        for (int parcel = 0; parcel < 12; parcel++) {
            sheet.due("its owner's still", x.holds(parcel, parcel), 12);
        }
    }

    static void aParcelHasTwelveTwelfths() {
        sheet.sentence(2, "A PARCEL that is told has 12 TWELFTHS; each of the PEOPLE holds so many of them.");
        FirstComer x = Told.parcels(1);
        for (int to = 1; to < 12; to++) {
            x.part(0, 0, to, 1);
        }
        int sum = 0;
        for (int person = 0; person < 16; person++) {
            sheet.due("holds(0, " + person + ")", x.holds(0, person), person < 12 ? 1 : 0);
            sum += x.holds(0, person);
        }
        sheet.due("in all", sum, 12);
    }

    // Promise 3

    static void oneToTwelveGoOver() {
        sheet.sentence(3, "So many TWELFTHS (1 to 12) go over to another one");
        for (int n = 1; n <= 12; n++) {
            FirstComer x = Told.parcels(1);
            sheet.yes("part(0, 0, 15, " + n + ")", x.part(0, 0, 15, n));
            sheet.due("left", x.holds(0, 0), 12 - n);
            sheet.due("come", x.holds(0, 15), n);
        }
        for (int n : Sheet.NO_TWELFTHS) {
            sheet.refused("part(11, 15, 0, " + n + ")", 0, v -> Sheet.bit(v.part(11, 15, 0, n)));
        }
    }

    static void toAnotherOne() {
        sheet.sentence(3, "go over to another one");
        sheet.refused("part(11, 15, 15, 1)", 0, v -> Sheet.bit(v.part(11, 15, 15, 1)));
        sheet.refused("part(11, 15, 15, 12)", 0, v -> Sheet.bit(v.part(11, 15, 15, 12)));
        sheet.refused("part(11, 5, 5, 1)", 0, v -> Sheet.bit(v.part(11, 5, 5, 1)));
    }

    static void noPassing() {
        sheet.sentence(3, "no PASSING");
        FirstComer x = Told.parcels(2, "first side on sale gift swap within 9;");
        x.beside(0, 1, 0);
        sheet.yes("though a neighbour might come first", x.part(0, 0, 9, 12));
        sheet.due("no passing", x.count(2), 0);
        sheet.due("no passing", Sheet.look(x, 0, 0), Sheet.THROWN);
        for (int i = 0; i < 40; i++) {
            x.pass(0, i % 2 == 0 ? 9 : 0, i % 2 == 0 ? 0 : 9, 12, SALE, 0, 0);
        }
        sheet.yes("behind 40 passings, too", x.part(0, 9, 3, 12));
        sheet.due("forty", x.count(2), 40);
    }

    static void heDoesNotHoldSoMany() {
        sheet.sentence(3, "he does not hold so many");
        sheet.refused("part(0, 6, 5, 4) of 3", 0, v -> Sheet.bit(v.part(0, 6, 5, 4)));
        sheet.refused("part(0, 6, 5, 12) of 3", 0, v -> Sheet.bit(v.part(0, 6, 5, 12)));
        sheet.refused("part(0, 5, 6, 1) of none", 0, v -> Sheet.bit(v.part(0, 5, 6, 1)));
        FirstComer x = Midst.village();
        sheet.yes("part(0, 6, 5, 3) of 3", x.part(0, 6, 5, 3));
        sheet.due("none is left", x.holds(0, 6), 0);
        sheet.no("part(0, 6, 5, 1) of none", x.part(0, 6, 5, 1));
        sheet.due("three came", x.holds(0, 5), 3);
    }

    static void noSuchParcelOrPeopleToPart() {
        sheet.sentence(3, "false: others, he does not hold so many");
        for (int parcel : Sheet.NO_PARCELS) {
            sheet.refused("part(" + parcel + ", 15, 0, 1)", 0, v -> Sheet.bit(v.part(parcel, 15, 0, 1)));
        }
        sheet.refused("part(5, 15, 0, 1), not told", 0, v -> Sheet.bit(v.part(5, 15, 0, 1)));
        for (int person : Sheet.NO_PEOPLE) {
            sheet.refused("part(11, " + person + ", 0, 1)", 0, v -> Sheet.bit(v.part(11, person, 0, 1)));
            sheet.refused("part(11, 15, " + person + ", 1)", 0, v -> Sheet.bit(v.part(11, 15, person, 1)));
        }
    }

    // Promise 4

    static void sidesZeroToThree() {
        sheet.sentence(4, "SIDES of a PARCEL are 0 to 3");
        FirstComer x = Told.parcels(2);
        for (int side = 0; side < 4; side++) {
            sheet.yes("beside(0, 1, " + side + ")", x.beside(0, 1, side));
        }
        for (int side : NO_SIDES) {
            sheet.refused("beside(3, 4, " + side + ")", 0, v -> Sheet.bit(v.beside(3, 4, side)));
        }
    }

    static void theOtherSideIsTwoFurther() {
        sheet.sentence(4, "if another one lies at SIDE s of it, it lies at SIDE (s + 2) modulo 4 of that one.");
        int[] opposite = {2, 3, 0, 1};
        for (int side = 0; side < 4; side++) {
            for (int back = 0; back < 4; back++) {
                FirstComer x = Told.parcels(2);
                x.beside(0, 1, side);
                sheet.due("beside(0, 1, " + side + "), then beside(1, 0, " + back + ")", Sheet.bit(x.beside(1, 0, back)), back == opposite[side] ? 0 : 1);
            }
        }
    }

    static void anotherParcelLiesAtASide() {
        sheet.sentence(4, "Another PARCEL lies at a SIDE: true; false: others (not told, the same), it lies so already.");
        sheet.refused("beside(0, 1, 0) again", 0, v -> Sheet.bit(v.beside(0, 1, 0)));
        sheet.refused("beside(1, 0, 2), which is the same", 0, v -> Sheet.bit(v.beside(1, 0, 2)));
        sheet.refused("beside(2, 0, 1), which wraps round", 0, v -> Sheet.bit(v.beside(2, 0, 1)));
        for (int side = 0; side < 4; side++) {
            int at = side;
            sheet.refused("beside(3, 3, " + side + "), the same", 0, v -> Sheet.bit(v.beside(3, 3, at)));
            sheet.refused("beside(3, 5, " + side + "), not told", 0, v -> Sheet.bit(v.beside(3, 5, at)));
            sheet.refused("beside(5, 3, " + side + "), not told", 0, v -> Sheet.bit(v.beside(5, 3, at)));
        }
        sheet.refused("beside(5, 5, 0), neither", 0, v -> Sheet.bit(v.beside(5, 5, 0)));
        for (int parcel : Sheet.NO_PARCELS) {
            sheet.refused("beside(" + parcel + ", 0, 1)", 0, v -> Sheet.bit(v.beside(parcel, 0, 1)));
            sheet.refused("beside(0, " + parcel + ", 1)", 0, v -> Sheet.bit(v.beside(0, parcel, 1)));
        }
    }

    static void allLieAtOneSide() {
        sheet.sentence(4, "Another PARCEL lies at a SIDE");
        FirstComer x = Told.parcels(12);
        for (int other = 1; other < 12; other++) {
            sheet.yes("beside(0, " + other + ", 3)", x.beside(0, other, 3));
        }
        for (int other = 1; other < 12; other++) {
            sheet.no("beside(0, " + other + ", 3) again", x.beside(0, other, 3));
            sheet.due("stands(0, 0, " + other + ")", x.stands(0, 0, other), 4);
        }
    }

    // Promise 5

    static void waterJoinsTwo() {
        sheet.sentence(5, "WATER joins two PARCELS: true; false: others (not told, the same), it does already.");
        sheet.refused("water(0, 3) again", 0, v -> Sheet.bit(v.water(0, 3)));
        sheet.refused("water(3, 0), the same two", 0, v -> Sheet.bit(v.water(3, 0)));
        sheet.refused("water(11, 2), the same two", 0, v -> Sheet.bit(v.water(11, 2)));
        sheet.refused("water(4, 4)", 0, v -> Sheet.bit(v.water(4, 4)));
        sheet.refused("water(5, 5), the same, not told", 0, v -> Sheet.bit(v.water(5, 5)));
        sheet.refused("water(0, 5), not told", 0, v -> Sheet.bit(v.water(0, 5)));
        sheet.refused("water(5, 0), not told", 0, v -> Sheet.bit(v.water(5, 0)));
        for (int parcel : Sheet.NO_PARCELS) {
            sheet.refused("water(" + parcel + ", 0)", 0, v -> Sheet.bit(v.water(parcel, 0)));
            sheet.refused("water(0, " + parcel + ")", 0, v -> Sheet.bit(v.water(0, parcel)));
        }
    }

    static void waterJoinsAll() {
        sheet.sentence(5, "WATER joins two PARCELS");
        FirstComer x = Told.parcels(12);
        int joined = 0;
        for (int a = 0; a < 12; a++) {
            for (int b = 0; b < a; b++) {
                sheet.yes("water(" + a + ", " + b + ")", x.water(a, b));
                joined++;
            }
        }
        sheet.due("each two once", joined, 66);
        for (int a = 0; a < 12; a++) {
            sheet.no("water(" + a + ", " + a + ")", x.water(a, a));
            sheet.no("water(0, " + a + ")", x.water(0, a));
            sheet.due("he holds some of it", x.stands(a, a, a), 2);
            sheet.due("his neighbour by water", x.stands(a, a, (a + 1) % 12), 8);
        }
    }

    // Promise 6

    static void degreesOneToThree() {
        sheet.sentence(6, "KIN are two PEOPLE in a DEGREE (1 to 3).");
        for (int degree = 1; degree <= 3; degree++) {
            FirstComer x = Told.parcels(1, "first kin on sale within 1 when degree=" + degree + ";");
            for (int told = 0; told <= 3; told++) {
                sheet.yes("kin(0, 15, " + told + ")", x.kin(0, 15, told));
                sheet.due("degree " + degree + " told " + told, x.would(0, 0, 9, 1, SALE, 0, 0), told == degree ? 1 << 15 : 0);
            }
        }
        for (int degree : NO_DEGREES) {
            sheet.refused("kin(0, 8, " + degree + ")", 0, v -> Sheet.bit(v.kin(0, 8, degree)));
        }
    }

    static void notAnyMore() {
        sheet.sentence(6, "KIN in a DEGREE (0: not any more)");
        FirstComer x = Told.parcels(1);
        x.kin(0, 8, 1);
        x.kin(1, 8, 3);
        sheet.due("kin(0, 8) they are", x.stands(0, 0, 8), 1);
        sheet.yes("kin(8, 0, 0)", x.kin(8, 0, 0));
        sheet.due("not any more", x.stands(0, 0, 8), 0);
        sheet.due("nor the other way round", x.stands(0, 8, 0), 2);
        sheet.due("but of another one", x.stands(0, 1, 8), 1);
        sheet.yes("kin(8, 0, 0) again", x.kin(8, 0, 0));
        sheet.yes("kin(0, 8, 3)", x.kin(0, 8, 3));
        sheet.due("kin again", x.stands(0, 0, 8), 1);
    }

    static void kinOfHimself() {
        sheet.sentence(6, "true; false: others, the same.");
        for (int degree = 0; degree <= 3; degree++) {
            int told = degree;
            sheet.refused("kin(8, 8, " + degree + ")", 0, v -> Sheet.bit(v.kin(8, 8, told)));
            sheet.refused("kin(0, 0, " + degree + ")", 0, v -> Sheet.bit(v.kin(0, 0, told)));
        }
        for (int person : Sheet.NO_PEOPLE) {
            sheet.refused("kin(" + person + ", 0, 1)", 0, v -> Sheet.bit(v.kin(person, 0, 1)));
            sheet.refused("kin(0, " + person + ", 0)", 0, v -> Sheet.bit(v.kin(0, person, 0)));
            sheet.refused("kin(" + person + ", " + person + ", 1)", 0, v -> Sheet.bit(v.kin(person, person, 1)));
        }
    }

    static void allAreKin() {
        sheet.sentence(6, "KIN are two PEOPLE");
        FirstComer x = Told.parcels(1);
        for (int a = 0; a < 16; a++) {
            for (int b = 0; b < a; b++) {
                sheet.yes("kin(" + a + ", " + b + ", 3)", x.kin(a, b, 3));
            }
        }
        for (int a = 0; a < 16; a++) {
            sheet.due("stands(0, 15, " + a + ")", x.stands(0, 15, a), (a == 15 ? 0 : 1) + (a == 0 ? 2 : 0));
            sheet.due("stands(0, 0, " + a + ")", x.stands(0, 0, a), a == 0 ? 2 : 1);
        }
    }

    // Promises 7 and 8

    static void nobodyNeedsAtFirst() {
        sheet.sentence(7, "PEOPLE NEED or not (not at first).");
        for (int person = 0; person < 16; person++) {
            FirstComer x = new FirstComer();
            int seller = (person + 1) % 16;
            x.parcel(0, seller);
            Told.law(x, "free when need;");
            x.pass(0, seller, person, 1, SALE, 0, 0);
            sheet.due("person " + person + " needs", x.look(0, 8), 0);
            sheet.yes("need(" + person + ", true)", x.need(person, true));
            x.pass(0, seller, person, 1, SALE, 0, 0);
            sheet.due("person " + person + " needs", x.look(1, 8), 1);
            x.pass(0, seller, (person + 2) % 16, 1, SALE, 0, 0);
            sheet.due("another one needs", x.look(2, 8), 0);
            sheet.yes("need(" + person + ", true) again", x.need(person, true));
            sheet.yes("need(" + person + ", false)", x.need(person, false));
            sheet.yes("need(" + person + ", false) again", x.need(person, false));
            x.pass(0, seller, person, 1, SALE, 0, 0);
            sheet.due("person " + person + " needs no more", x.look(3, 8), 0);
        }
    }

    static void noSuchOneNeeds() {
        sheet.sentence(7, "One NEEDS or not: true; false: no such one.");
        for (int person : Sheet.NO_PEOPLE) {
            sheet.refused("need(" + person + ", true)", 0, v -> Sheet.bit(v.need(person, true)));
            sheet.refused("need(" + person + ", false)", 0, v -> Sheet.bit(v.need(person, false)));
        }
    }

    static void allCareAtFirst() {
        sheet.sentence(8, "nobody who CARES (all at first) MAY come first.");
        for (int person = 0; person < 16; person++) {
            FirstComer x = new FirstComer();
            int stranger = (person + 2) % 16;
            x.parcel(0, (person + 1) % 16);
            x.parcel(1, person);
            x.beside(0, 1, 0);
            Told.law(x, "first side on sale gift swap within 1;");
            sheet.due("both care", x.far(stranger, 1, 0, 0), 0);
            sheet.yes("care(" + person + ", false)", x.care(person, false));
            sheet.due("person " + person + " does not", x.far(stranger, 1, 0, 2), 1);
            sheet.yes("care(" + person + ", false) again", x.care(person, false));
            sheet.yes("care(" + person + ", true)", x.care(person, true));
            sheet.yes("care(" + person + ", true) again", x.care(person, true));
            sheet.due("both care", x.far(stranger, 1, 0, 0), 0);
        }
    }

    static void noSuchOneCares() {
        sheet.sentence(8, "One CARES or not: true; false: no such one.");
        for (int person : Sheet.NO_PEOPLE) {
            sheet.refused("care(" + person + ", true)", 0, v -> Sheet.bit(v.care(person, true)));
            sheet.refused("care(" + person + ", false)", 0, v -> Sheet.bit(v.care(person, false)));
        }
    }

    // Promise 9

    static void nowIsZeroAtFirst() {
        sheet.sentence(9, "NOW is a DAY, 0 at first.");
        FirstComer x = Told.parcels(1, "free when not day;");
        sheet.due("NOW", x.count(1), 0);
        x.pass(0, 0, 1, 1, SALE, 0, 0);
        sheet.due("its day", x.look(0, 7), 0);
        sheet.due("the fact day", x.look(0, 8), 1);
    }

    static void zeroToThousandDaysGo() {
        sheet.sentence(9, "So many DAYS go (0 to 1000): NOW; NONE: another number");
        FirstComer x = new FirstComer();
        sheet.due("days(0)", x.days(0), 0);
        sheet.due("days(1)", x.days(1), 1);
        sheet.due("days(999)", x.days(999), 1000);
        sheet.due("days(1000)", x.days(1000), 2000);
        sheet.due("NOW", x.count(1), 2000);
        for (int n : new int[] {-1, 1001, -1000, 2000, 9990, Integer.MIN_VALUE, Integer.MAX_VALUE}) {
            sheet.refused("days(" + n + ")", -1, v -> v.days(n));
        }
    }

    private static FirstComer lateVillage() {
        FirstComer x = Told.parcels(2);
        for (int i = 0; i < 9; i++) {
            x.days(1000);
        }
        x.days(998);
        return x;
    }

    static void beyondTheLastDay() {
        sheet.sentence(9, "beyond 9999");
        for (int n : new int[] {2, 3, 1000, 1001}) {
            sheet.refused(VillageEdgesTest::lateVillage, "days(" + n + ") on day 9998", -1, v -> v.days(n));
        }
        FirstComer x = lateVillage();
        sheet.due("days(1)", x.days(1), 9999);
        sheet.due("days(1) more", x.days(1), -1);
        sheet.due("days(1000) more", x.days(1000), -1);
        sheet.due("days(0)", x.days(0), 9999);
        sheet.due("NOW", x.count(1), 9999);
    }

    // Promises 12 and 13

    static void noneToTwelveAreHeld() {
        sheet.sentence(12, "How many TWELFTHS one holds");
        FirstComer x = Told.parcels(1);
        for (int n = 0; n <= 12; n++) {
            sheet.due("holds(0, 0)", x.holds(0, 0), 12 - n);
            sheet.due("holds(0, 15)", x.holds(0, 15), n);
            x.part(0, 0, 15, 1);
        }
        sheet.due("holds(0, 0)", x.holds(0, 0), 0);
        sheet.due("holds(0, 15)", x.holds(0, 15), 12);
    }

    static void noSuchParcelToldOrPerson() {
        sheet.sentence(12, "NONE: no such PARCEL told, PERSON.");
        for (int parcel : Sheet.NO_PARCELS) {
            sheet.refused("holds(" + parcel + ", 0)", -1, v -> v.holds(parcel, 0));
        }
        sheet.refused("holds(5, 0), not told", -1, v -> v.holds(5, 0));
        for (int person : Sheet.NO_PEOPLE) {
            sheet.refused("holds(0, " + person + ")", -1, v -> v.holds(0, person));
        }
    }

    static void oneTwelfthIsEnoughToStand() {
        sheet.sentence(13, "One of the PEOPLE STANDS to a PARCEL and a seller as kin (KIN of the seller), share (holds TWELFTHS of it), side (of a PARCEL that lies at a SIDE of it), water (of one joined to it by WATER).");
        FirstComer x = Told.parcels(3);
        x.beside(1, 0, 3);
        x.water(2, 0);
        sheet.due("as nothing", x.stands(0, 9, 15), 0);
        x.part(0, 0, 15, 1);
        sheet.due("as share", x.stands(0, 9, 15), 2);
        x.part(1, 1, 15, 1);
        sheet.due("as share and side", x.stands(0, 9, 15), 6);
        x.part(2, 2, 15, 1);
        sheet.due("as share, side and water", x.stands(0, 9, 15), 14);
        x.kin(9, 15, 3);
        sheet.due("as all", x.stands(0, 9, 15), 15);
        sheet.due("not kin of another seller", x.stands(0, 8, 15), 14);
        x.part(0, 15, 3, 1);
        sheet.due("share no more", x.stands(0, 9, 15), 13);
        x.part(1, 15, 3, 1);
        sheet.due("side no more", x.stands(0, 9, 15), 9);
        x.part(2, 15, 3, 1);
        sheet.due("water no more", x.stands(0, 9, 15), 1);
        sheet.due("the seller himself", x.stands(0, 0, 0), 2);
    }

    static void standsAtEachSide() {
        sheet.sentence(13, "side (of a PARCEL that lies at a SIDE of it)");
        for (int side = 0; side < 4; side++) {
            FirstComer x = Told.parcels(3);
            x.beside(0, 1, side);
            x.beside(1, 2, side);
            sheet.due("side " + side, x.stands(0, 0, 1), 4);
            sheet.due("side " + side + ", from the other one", x.stands(1, 1, 0), 4);
            sheet.due("the one beyond", x.stands(0, 0, 2), 0);
            sheet.due("his own one lies not beside itself", x.stands(0, 0, 0), 2);
        }
    }

    static void noneOtherStands() {
        sheet.sentence(13, "As what one STANDS to a PARCEL and a seller, as bits (1 kin, 2 share, 4 side, 8 water); NONE: others.");
        for (int parcel : Sheet.NO_PARCELS) {
            sheet.refused("stands(" + parcel + ", 0, 0)", -1, v -> v.stands(parcel, 0, 0));
        }
        sheet.refused("stands(5, 0, 0), not told", -1, v -> v.stands(5, 0, 0));
        for (int person : Sheet.NO_PEOPLE) {
            sheet.refused("stands(0, " + person + ", 0)", -1, v -> v.stands(0, person, 0));
            sheet.refused("stands(0, 0, " + person + ")", -1, v -> v.stands(0, 0, person));
        }
    }
}
