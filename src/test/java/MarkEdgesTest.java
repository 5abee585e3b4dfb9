import java.util.List;

/** Boundary cases of promises 30 and 31: marks, what they hold and what they do not, and counts. */
public final class MarkEdgesTest {
    private static final int SALE = Told.SALE;
    private static final int GIFT = Told.GIFT;
    private static final Sheet sheet = new Sheet(MarkEdgesTest.class);

    public static void main(String[] args) {
        sheet.run();
    }

    // Promise 30

    static void marksZeroToThree() {
        sheet.sentence(30, "A MARK is laid (back: gone back to): true; false: none such, nothing is on it (back).");
        FirstComer x = new FirstComer();
        for (int mark = 0; mark < 4; mark++) {
            sheet.no("nothing is on " + mark, x.mark(mark, true));
            sheet.yes("laid " + mark, x.mark(mark, false));
            sheet.yes("back to " + mark, x.mark(mark, true));
            sheet.yes("back to " + mark + " again", x.mark(mark, true));
        }
        for (int mark : new int[] {-1, 4, 5, 32, Integer.MIN_VALUE, Integer.MAX_VALUE}) {
            sheet.refused("mark(" + mark + ", false)", 0, v -> Sheet.bit(v.mark(mark, false)));
            sheet.refused("mark(" + mark + ", true)", 0, v -> Sheet.bit(v.mark(mark, true)));
        }
    }

    static void nothingIsOnIt() {
        sheet.sentence(30, "nothing is on it (back)");
        sheet.refused("mark(1, true)", 0, v -> Sheet.bit(v.mark(1, true)));
        sheet.refused("mark(3, true)", 0, v -> Sheet.bit(v.mark(3, true)));
        sheet.refused(MarkEdgesTest::backInTheMidst, "mark(2, true), which is gone", 0, v -> Sheet.bit(v.mark(2, true)));
    }

    private static FirstComer backInTheMidst() {
        FirstComer x = Midst.village();
        x.mark(0, true);
        return x;
    }

    static void layingChangesNothing() {
        sheet.sentence(30, "MARKS 0 to 3 hold who holds what");
        FirstComer x = Midst.village();
        List<String> before = Midst.view(Midst.village());
        x.mark(3, false);
        x.mark(3, true);
        List<String> after = Midst.view(x);
        for (int i = 0; i < before.size(); i++) {
            boolean ofTheMark = before.get(i).startsWith("mark(3");
            sheet.due("answers laid and back at once: " + after.get(i), Sheet.bit(after.get(i).equals(before.get(i))), ofTheMark ? 0 : 1);
        }
    }

    static void whoHoldsWhat() {
        sheet.sentence(30, "MARKS 0 to 3 hold who holds what");
        FirstComer x = Told.parcels(12);
        x.part(0, 0, 15, 1);
        x.mark(0, false);
        for (int parcel = 0; parcel < 12; parcel++) {
            x.part(parcel, parcel, 14, parcel == 0 ? 11 : 12);
        }
        x.part(0, 15, 3, 1);
        x.mark(0, true);
        for (int parcel = 0; parcel < 12; parcel++) {
            sheet.due("holds(" + parcel + ", " + parcel + ")", x.holds(parcel, parcel), parcel == 0 ? 11 : 12);
            sheet.due("holds(" + parcel + ", 14)", x.holds(parcel, 14), 0);
            sheet.due("holds(" + parcel + ", 15)", x.holds(parcel, 15), parcel == 0 ? 1 : 0);
        }
        Told.law(x, "free when has=1;");
        x.pass(1, 1, 15, 1, SALE, 0, 0);
        sheet.due("the facts go back, too", x.look(0, 8), 1);
    }

    static void parcelsToldSince() {
        sheet.sentence(30, "(PARCELS told since stay as they are)");
        FirstComer x = new FirstComer();
        x.mark(0, false);
        x.parcel(0, 3);
        x.part(0, 3, 4, 5);
        x.parcel(11, 15);
        sheet.yes("back to none", x.mark(0, true));
        sheet.due("both are told", x.count(0), 2);
        sheet.due("as it is", x.holds(0, 3), 7);
        sheet.due("as it is", x.holds(0, 4), 5);
        sheet.due("as it is", x.holds(11, 15), 12);
        sheet.no("told once", x.parcel(0, 3));
        x.mark(0, false);
        x.part(0, 3, 4, 7);
        x.mark(0, true);
        sheet.due("told ahead of it now", x.holds(0, 3), 7);
    }

    static void passingsOfParcelsToldSince() {
        sheet.sentence(30, "PASSINGS and MARKS that came behind it are gone when one is gone back to.");
        FirstComer x = Told.parcels(1);
        x.mark(0, false);
        x.parcel(1, 1);
        x.pass(1, 1, 9, 5, SALE, 1, 1);
        x.pass(0, 0, 9, 5, SALE, 1, 1);
        x.mark(0, true);
        sheet.due("no passing", x.count(2), 0);
        sheet.due("no passing", Sheet.look(x, 0, 0), Sheet.THROWN);
        sheet.due("no passing", Sheet.look(x, 1, 0), Sheet.THROWN);
        sheet.due("told since: what went stays", x.holds(1, 9), 5);
        sheet.due("told ahead: it is back", x.holds(0, 9), 0);
    }

    static void theDayGoesBack() {
        sheet.sentence(30, "NOW, and how many PASSINGS there are");
        FirstComer x = Told.parcels(1);
        x.mark(0, false);
        for (int i = 0; i < 9; i++) {
            x.days(1000);
        }
        x.days(999);
        x.mark(1, false);
        sheet.due("the last day", x.days(1), -1);
        x.mark(0, true);
        sheet.due("the first day", x.count(1), 0);
        sheet.due("from there", x.days(1000), 1000);
        sheet.no("the other mark is gone", x.mark(1, true));
        FirstComer y = Told.parcels(1);
        for (int i = 0; i < 40; i++) {
            y.pass(0, i % 2 == 0 ? 0 : 9, i % 2 == 0 ? 9 : 0, 12, SALE, i, i);
        }
        y.mark(0, false);
        sheet.yes("back to 40", y.mark(0, true));
        sheet.due("forty", y.count(2), 40);
        sheet.due("the last one", y.look(39, 5), 39);
        sheet.due("full", y.pass(0, 0, 9, 12, SALE, 0, 0), -1);
    }

    private static FirstComer heardOf() {
        FirstComer x = Told.parcels(2, "price paid;first side on sale within 3;");
        x.beside(0, 1, 0);
        x.pass(0, 0, 9, 6, SALE, 10, 8);
        x.days(2);
        return x;
    }

    static void whatWasHeardByThen() {
        sheet.sentence(30, "(with what was HEARD, WAIVED, TAKEN, proven by then)");
        FirstComer x = heardOf();
        x.mark(0, false);
        x.hears(0, 1, 2);
        x.mark(1, false);
        x.days(4);
        sheet.due("late", x.claim(0, 1, 8), 2);
        x.mark(1, true);
        sheet.due("heard", x.till(0, 1), 5);
        sheet.no("told once", x.hears(0, 1, 1));
        x.mark(0, true);
        sheet.due("not heard", x.till(0, 1), -1);
        sheet.yes("on another day", x.hears(0, 1, 0));
        sheet.due("heard", x.till(0, 1), 3);
    }

    static void whatWasWaivedByThen() {
        sheet.sentence(30, "WAIVED, TAKEN, proven by then");
        FirstComer x = heardOf();
        x.mark(0, false);
        x.waive(0, 1);
        x.mark(1, false);
        sheet.yes("back", x.mark(1, true));
        sheet.due("waived", x.claim(0, 1, 8), 1);
        x.mark(0, true);
        sheet.due("not waived", x.claim(0, 1, 7), 4);
        sheet.yes("waives", x.waive(0, 1));
    }

    static void whatWasTakenByThen() {
        sheet.sentence(30, "TAKEN, proven by then");
        FirstComer x = heardOf();
        x.mark(0, false);
        x.claim(0, 1, 8);
        x.mark(1, false);
        x.part(0, 1, 3, 6);
        x.mark(1, true);
        sheet.due("taken", x.count(3), 1);
        sheet.due("his", x.holds(0, 1), 6);
        sheet.due("taken", x.claim(0, 1, 8), 6);
        x.mark(0, true);
        sheet.due("not taken", x.count(3), 0);
        sheet.due("not taken", x.look(0, 10), -1);
        sheet.due("the buyer's", x.holds(0, 9), 6);
        sheet.due("taken again", x.claim(0, 1, 8), 0);
    }

    static void whatWasProvenByThen() {
        sheet.sentence(30, "proven by then");
        FirstComer x = heardOf();
        x.mark(0, false);
        x.truly(0, 0);
        x.mark(1, false);
        x.truly(0, 9999);
        x.mark(1, true);
        sheet.due("proven", x.look(0, 6), 0);
        sheet.due("asked", x.look(0, 11), 0);
        x.mark(0, true);
        sheet.due("as it was passed", x.look(0, 6), 8);
        sheet.due("asked", x.look(0, 11), 8);
    }

    static void whatCameBehindIsGone() {
        sheet.sentence(30, "PASSINGS and MARKS that came behind it are gone");
        for (int back = 0; back < 4; back++) {
            FirstComer x = Told.parcels(1);
            for (int mark = 0; mark < 4; mark++) {
                x.mark(3 - mark, false);
                x.pass(0, 0, 9, 1, SALE, mark, mark);
            }
            sheet.yes("back to the one laid as number " + back, x.mark(3 - back, true));
            sheet.due("so many passings", x.count(2), back);
            for (int i = 0; i < 5; i++) {
                sheet.due("passing " + i, Sheet.look(x, i, 5), i < back ? i : Sheet.THROWN);
            }
            for (int mark = 3; mark >= 0; mark--) {
                sheet.due("the one laid as number " + mark, Sheet.bit(x.mark(3 - mark, true)), mark <= back ? 1 : 0);
            }
        }
    }

    static void aMarkLaidAnew() {
        sheet.sentence(30, "MARKS that came behind it are gone");
        FirstComer x = Told.parcels(1);
        x.mark(0, false);
        x.days(1);
        x.mark(1, false);
        x.days(1);
        x.mark(0, false);
        x.days(1);
        sheet.yes("the one laid anew", x.mark(0, true));
        sheet.due("its day", x.count(1), 2);
        sheet.yes("the one ahead of it is there", x.mark(1, true));
        sheet.due("its day", x.count(1), 1);
        sheet.no("the one laid anew came behind it", x.mark(0, true));
        sheet.due("no day went", x.count(1), 1);
        sheet.yes("laid once more", x.mark(0, false));
        sheet.yes("there", x.mark(0, true));
        sheet.yes("there", x.mark(1, true));
    }

    static void aPassingInTheirPlace() {
        sheet.sentence(30, "PASSINGS and MARKS that came behind it are gone when one is gone back to");
        FirstComer x = heardOf();
        x.mark(0, false);
        x.pass(0, 0, 9, 6, SALE, 10, 8);
        x.hears(1, 1, 2);
        x.waive(1, 1);
        x.truly(1, 3);
        x.mark(0, true);
        sheet.due("its number", x.pass(0, 0, 9, 5, SALE, 20, 18), 1);
        sheet.due("not heard", x.till(1, 1), -1);
        sheet.due("not proven", x.look(1, 6), 18);
        sheet.due("not waived", x.claim(1, 1, 18), 0);
        sheet.due("one is taken", x.count(3), 1);
        x.mark(0, true);
        sheet.due("it is gone", x.count(3), 0);
        sheet.due("its number", x.pass(0, 0, 9, 5, GIFT, 0, 0), 1);
        sheet.due("not taken", x.look(1, 10), -1);
        sheet.due("nobody may", x.order(1, 0), -1);
    }

    static void whatMarksDoNotHold() {
        sheet.sentence(30, "MARKS 0 to 3 hold who holds what (PARCELS told since stay as they are), NOW, and how many PASSINGS there are");
        FirstComer x = Told.parcels(3, "first side on sale gift swap within 1;");
        x.mark(0, false);
        x.beside(0, 1, 0);
        x.water(0, 2);
        x.kin(0, 5, 1);
        x.need(9, true);
        x.care(1, false);
        x.honest(0, 0, 9, 1, SALE, 1);
        Told.law(x, "free when need;first side on sale gift swap within 1;first kin on sale within 1;maybe free when 1;");
        Told.feed(x, "free");
        x.mark(0, true);
        sheet.due("side", x.stands(0, 0, 1), 4);
        sheet.due("water", x.stands(0, 0, 2), 8);
        sheet.due("kin", x.stands(0, 0, 5), 1);
        sheet.due("the law", x.would(0, 0, 8, 1, SALE, 0, 0), 1 << 1 | 1 << 5);
        sheet.due("need", x.would(0, 0, 9, 1, SALE, 0, 0), 0);
        sheet.due("care", x.far(8, 1, 0, 2), 1);
        sheet.row("count", x::count, 3, 0, 0, 0, 3, 1, 1, 4);
    }

    // Promise 31

    static void whatZeroToSeven() {
        sheet.sentence(31, "What 0: PARCELS, 1: NOW, 2: PASSINGS, 3: those TAKEN, 4: LINES in force (with first or free), 5: LINES with maybe, 6: HONEST ones, 7: signs on the TAPE. NONE for another what.");
        for (int what : new int[] {-1, 8, 9, 32, Integer.MIN_VALUE, Integer.MAX_VALUE}) {
            sheet.refused("count(" + what + ")", -1, v -> v.count(what));
        }
        sheet.row("count of a new one", new FirstComer()::count, 0, 0, 0, 0, 0, 0, 0, 0, -1);
        sheet.row("count in the midst", Midst.village()::count, 6, 9, 4, 1, 3, 1, 2, 12, -1);
    }

    static void allIsFull() {
        sheet.sentence(31, "What 0: PARCELS, 1: NOW, 2: PASSINGS, 3: those TAKEN");
        FirstComer x = Told.parcels(12);
        x.beside(0, 1, 0);
        Told.law(x, Told.times(6, "maybe free when 0;") + Told.times(11, "free when 0;") + "price paid;first side on sale within 1;parts shares;");
        for (int i = 0; i < 40; i++) {
            sheet.due("pass", x.pass(0, 0, 15, 12, SALE, 0, 0), i);
            sheet.due("claim", x.claim(i, 1, 0), 0);
            sheet.due("taken", x.count(3), i + 1);
            x.part(0, 1, 0, 12);
        }
        for (int i = 0; i < 10; i++) {
            x.days(i < 9 ? 1000 : 999);
            x.honest(0, 0, 1, 1, SALE, 1);
        }
        Told.feed(x, Told.times(1010, " "));
        sheet.row("count", x::count, 12, 9999, 40, 40, 12, 6, 6, 1000, -1);
    }

    static void onlyFirstOrFreeInForce() {
        sheet.sentence(31, "4: LINES in force (with first or free), 5: LINES with maybe");
        FirstComer x = new FirstComer();
        Told.law(x, "price paid;parts shares;");
        sheet.row("count", x::count, 0, 0, 0, 0, 0, 0, 0, 0);
        Told.law(x, "price paid;free when 1;maybe first kin on sale within 1;parts shares;first kin on sale within 1;");
        sheet.row("count", x::count, 0, 0, 0, 0, 2, 1, 0, 0);
        Told.law(x, "free when 1;?");
        sheet.row("count behind a fault", x::count, 0, 0, 0, 0, 2, 1, 0, 0);
    }
}
