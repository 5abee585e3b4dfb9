/** For each promise of the document: ordinary inputs, the edges that it names, and wrong inputs. */
public final class PromisesTest {
    private static final int SALE = Told.SALE;
    private static final int GIFT = Told.GIFT;
    private static final int SWAP = Told.SWAP;
    private static int passed;
    private static int failed;
    private static int promise;

    public static void main(String[] args) {
        newObject();
        parcels();
        parts();
        besides();
        waters();
        kinship();
        needs();
        cares();
        dayByDay();
        feeding();
        soundLaws();
        faults();
        tooMany();
        manyLaws();
        nesting();
        expressions();
        facts();
        holding();
        standing();
        passing();
        woulds();
        ranksAndFree();
        looking();
        mayAndOrder();
        hearing();
        tills();
        waiving();
        proving();
        claims();
        parting();
        slyRows();
        slyWithOther();
        slyAgain();
        longestRow();
        howFar();
        farAgain();
        honestOnes();
        mending();
        marks();
        counts();
        System.out.println("PromisesTest: " + passed + " passed, " + failed + " failed");
        if (failed > 0) {
            System.exit(1);
        }
    }

    private static void due(String what, long got, long want) {
        if (got == want) {
            passed++;
        } else {
            failed++;
            System.out.println("promise " + promise + ": " + what + " answered " + got + ", due is " + want);
        }
    }

    private static void yes(String what, boolean got) {
        due(what, got ? 1 : 0, 1);
    }

    private static void no(String what, boolean got) {
        due(what, got ? 1 : 0, 0);
    }

    private static void lawIs(String text, int kind, int place) {
        due("law() of <" + text + ">", Told.law(new FirstComer(), text), kind + 16 * place);
    }

    private static boolean lookThrows(FirstComer x, int passing, int what) {
        return Sheet.look(x, passing, what) == Sheet.THROWN;
    }

    private static void newObject() {
        promise = 1;
        FirstComer x = new FirstComer();
        for (int what = 0; what < 8; what++) {
            due("count(" + what + ") of a new one", x.count(what), 0);
        }
        due("NONE", FirstComer.NONE, -1);
        due("no parcel", x.holds(0, 0), -1);
        due("an empty tape is an empty law", x.law(), 0);
        x.parcel(0, 0);
        x.kin(0, 1, 1);
        due("nobody may by an empty law", x.would(0, 0, 9, 12, SALE, 1, 1), 0);
    }

    private static void parcels() {
        promise = 2;
        FirstComer x = new FirstComer();
        yes("parcel(0, 15)", x.parcel(0, 15));
        yes("parcel(11, 0)", x.parcel(11, 0));
        no("told already", x.parcel(0, 15));
        no("told already, another owner", x.parcel(0, 14));
        no("parcel(12, 0)", x.parcel(12, 0));
        no("parcel(-1, 0)", x.parcel(-1, 0));
        no("parcel(1, 16)", x.parcel(1, 16));
        no("parcel(1, -1)", x.parcel(1, -1));
        due("he holds all", x.holds(0, 15), 12);
        due("two told", x.count(0), 2);
        due("parcel 1 is not told", x.holds(1, 0), -1);
    }

    private static void parts() {
        promise = 3;
        FirstComer x = Told.parcels(1);
        yes("5 go", x.part(0, 0, 1, 5));
        due("seller keeps", x.holds(0, 0), 7);
        due("other gets", x.holds(0, 1), 5);
        no("8 of 7", x.part(0, 0, 1, 8));
        yes("all 7", x.part(0, 0, 1, 7));
        yes("all 12", x.part(0, 1, 2, 12));
        no("n 0", x.part(0, 2, 1, 0));
        no("n 13", x.part(0, 2, 1, 13));
        no("n below 0", x.part(0, 2, 1, -1));
        no("to himself", x.part(0, 2, 2, 1));
        no("not told", x.part(1, 2, 1, 1));
        no("no such parcel", x.part(12, 2, 1, 1));
        no("no such seller", x.part(0, 16, 1, 1));
        no("no such other", x.part(0, 2, -1, 1));
        due("no passing", x.count(2), 0);
        due("all still his", x.holds(0, 2), 12);
    }

    private static void besides() {
        promise = 4;
        FirstComer x = Told.parcels(4);
        yes("beside(0, 1, 3)", x.beside(0, 1, 3));
        no("it lies so already", x.beside(0, 1, 3));
        no("from the other one it is side 1", x.beside(1, 0, 1));
        yes("another side of the other one", x.beside(1, 0, 3));
        no("which is side 1 of this one", x.beside(0, 1, 1));
        yes("two at one side", x.beside(0, 2, 3));
        no("the same", x.beside(0, 0, 0));
        no("not told", x.beside(0, 4, 0));
        no("this one not told", x.beside(5, 0, 0));
        no("side 4", x.beside(0, 3, 4));
        no("side -1", x.beside(0, 3, -1));
        no("no such parcel", x.beside(-1, 12, 0));
        due("he stands by it", x.stands(0, 0, 1), 4);
        due("and the other way round", x.stands(1, 1, 0), 4);
        due("beside the one beside is not beside", x.stands(2, 2, 1), 0);
    }

    private static void waters() {
        promise = 5;
        FirstComer x = Told.parcels(3);
        yes("water(0, 1)", x.water(0, 1));
        no("already", x.water(0, 1));
        no("already, the other way round", x.water(1, 0));
        no("the same", x.water(1, 1));
        no("not told", x.water(0, 3));
        no("no such parcel", x.water(12, 0));
        no("no such parcel", x.water(-1, 0));
        yes("water(2, 1)", x.water(2, 1));
        due("joined", x.stands(0, 0, 1), 8);
        due("joined both ways", x.stands(1, 1, 0), 8);
        due("through another one is not joined", x.stands(0, 0, 2), 0);
    }

    private static void kinship() {
        promise = 6;
        FirstComer x = Told.parcels(1, "first kin on sale within 1 when degree = 2;");
        yes("kin(0, 1, 1)", x.kin(0, 1, 1));
        due("degree 1", x.would(0, 0, 9, 1, SALE, 1, 1), 0);
        yes("kin(1, 0, 2)", x.kin(1, 0, 2));
        due("degree 2", x.would(0, 0, 9, 1, SALE, 1, 1), 2);
        yes("told again alike", x.kin(1, 0, 2));
        yes("not any more", x.kin(0, 1, 0));
        due("stands no more", x.stands(0, 0, 1), 0);
        yes("not any more, though they are not", x.kin(0, 1, 0));
        yes("degree 3", x.kin(0, 15, 3));
        no("degree 4", x.kin(0, 1, 4));
        no("degree -1", x.kin(0, 1, -1));
        no("the same", x.kin(3, 3, 1));
        no("the same, not any more", x.kin(3, 3, 0));
        no("no such one", x.kin(16, 0, 1));
        no("no such one", x.kin(0, -1, 1));
    }

    private static void needs() {
        promise = 7;
        FirstComer x = Told.parcels(1, "first kin on sale within 1 when need;free when need;");
        x.kin(0, 1, 1);
        due("not at first", x.would(0, 0, 9, 1, SALE, 1, 1), 0);
        yes("need(1)", x.need(1, true));
        due("in need", x.would(0, 0, 9, 1, SALE, 1, 1), 2);
        yes("need(1) again", x.need(1, true));
        yes("need(9)", x.need(9, true));
        due("the buyer in need: free", x.would(0, 0, 9, 1, SALE, 1, 1), 0);
        yes("no more", x.need(9, false));
        due("in need", x.would(0, 0, 9, 1, SALE, 1, 1), 2);
        no("need(16)", x.need(16, true));
        no("need(-1)", x.need(-1, true));
    }

    private static void cares() {
        promise = 8;
        FirstComer x = Told.parcels(2, "first side on sale gift swap within 1;");
        x.beside(0, 1, 0);
        due("all care at first", x.far(5, 9, 0, 0), 0);
        yes("care(1, false)", x.care(1, false));
        due("he cares no more", x.far(5, 9, 0, 2), 3);
        yes("care(1, true)", x.care(1, true));
        due("he cares again", x.far(5, 9, 0, 0), 0);
        no("care(16)", x.care(16, false));
        no("care(-1)", x.care(-1, false));
        x.care(1, false);
        due("a sly row asks for all", x.sly(0, 0, 5, 0), -1);
        due("and so does would()", x.would(0, 0, 5, 12, SALE, 0, 0), 2);
    }

    private static void dayByDay() {
        promise = 9;
        FirstComer x = new FirstComer();
        due("days(0)", x.days(0), 0);
        due("days(1000)", x.days(1000), 1000);
        due("days(1001)", x.days(1001), -1);
        due("days(-1)", x.days(-1), -1);
        for (int i = 2; i < 10; i++) {
            due("days(1000)", x.days(1000), i * 1000);
        }
        due("beyond 9999", x.days(1000), -1);
        due("up to 9999", x.days(999), 9999);
        due("beyond 9999", x.days(1), -1);
        due("days(0)", x.days(0), 9999);
        due("days(MAX)", x.days(Integer.MAX_VALUE), -1);
        due("NOW", x.count(1), 9999);
    }

    private static void feeding() {
        promise = 10;
        FirstComer x = new FirstComer();
        due("8 signs", x.feed(0x6162636465666768L, 0, 0), 8);
        due("others are left out", x.feed(0x097F80FF0B1F0D00L, -1L, Long.MIN_VALUE), 8);
        due("10, 32 and 126 are signs", x.feed(0x0A00000000000000L, 0x20L, 0x7E00L), 11);
        due("24 more", x.feed(0x2020202020202020L, 0x2020202020202020L, 0x2020202020202020L), 35);
        x.law();
        due("what reads it takes it", x.count(7), 0);
        due("the highest byte of a first", Told.law(x, "free when 1"), 1 + 16 * 11);
        for (int i = 1; i <= 41; i++) {
            due("24 each", x.feed(0x2020202020202020L, 0x2020202020202020L, 0x2020202020202020L), 24 * i);
        }
        due("16 of 24", x.feed(0x2020202020202020L, 0x2020202020202020L, 0x2020202020202020L), 1000);
        due("none", x.feed(0x2020202020202020L, 0x3F20202020202020L, 0x3F20202020202020L), 1000);
        due("what is beyond is left out", x.law(), 0);
        FirstComer y = new FirstComer();
        y.feed(0x667265652077L, 0x68656E20L, 0x313BL);
        due("free when 1;", y.law(), 0);
        due("one line", y.count(4), 1);
    }

    private static void soundLaws() {
        promise = 11;
        lawIs("", 0, 0);
        lawIs(" \n ", 0, 0);
        lawIs("first kin on sale within 0;", 0, 0);
        lawIs("first kin on swap gift sale within 999;", 0, 0);
        lawIs("first kin on gift within 0999;", 0, 0);
        lawIs("first water on gift within 7when 0007and 9999or(1);", 0, 0);
        lawIs("first\nshare  on gift\nwithin 7 when not 1 ;free when(n<1)=2;", 0, 0);
        lawIs("price told;parts heads;", 0, 0);
        lawIs("parts shares;price paid;", 0, 0);
        lawIs("price paid;free when price = paid;", 0, 0);
        lawIs("maybe first side on sale within 1;maybe free when 0;", 0, 0);
        FirstComer x = Told.parcels(1, "first kin on sale within 1;");
        due("a fault leaves the one ahead", Told.law(x, "free when 1; x"), 1 + 16 * 13);
        due("lines in force", x.count(4), 1);
        x.kin(0, 1, 1);
        due("it is the law still", x.would(0, 0, 9, 1, SALE, 0, 0), 2);
        due("an empty one", x.law(), 0);
        due("it is the law now", x.would(0, 0, 9, 1, SALE, 0, 0), 0);
    }

    private static void faults() {
        promise = 11;
        lawIs("first", 1, 5);
        lawIs("first  ", 1, 7);
        lawIs("First kin", 1, 0);
        lawIs("last kin", 1, 0);
        lawIs("on", 1, 0);
        lawIs("; ", 1, 0);
        lawIs("first sale", 1, 6);
        lawIs("first kin sale", 1, 10);
        lawIs("first kin on kin", 1, 13);
        lawIs("first kin on sale when", 1, 18);
        lawIs("first kin on sale gift sale within", 3, 23);
        lawIs("first kin on swap swap", 3, 18);
        lawIs("first kin on sale gift swap gift", 3, 28);
        lawIs("first kin on sale within 1;first kin on sale within 1;", 0, 0);
        lawIs("first kin on sale within when", 1, 25);
        lawIs("first kin on sale within 1000", 4, 25);
        lawIs("first kin on sale within 9999;", 4, 25);
        lawIs("first kin on sale within 00001;", 1, 25);
        lawIs("first kin on sale within - 1;", 1, 25);
        lawIs("first kin on sale within 1 free", 1, 27);
        lawIs("first kin on sale within 1 when ;", 1, 32);
        lawIs("first kin on sale within 1", 1, 26);
        lawIs("free when n n;", 1, 12);
        lawIs("free when first;", 1, 10);
        lawIs("free when abcdefghi;", 1, 10);
        lawIs("free when abcdefgh;", 1, 10);
        lawIs("free when 12345;", 1, 10);
        lawIs("free when 1 < 2 < 3;", 1, 16);
        lawIs("free when 1 = 2 < 3;", 1, 16);
        lawIs("free when 1 + ;", 1, 14);
        lawIs("free when - 1;", 1, 10);
        lawIs("free when (1;", 1, 12);
        lawIs("free when 1);", 1, 11);
        lawIs("free when ();", 1, 11);
        lawIs("free when not;", 1, 13);
        lawIs("free when n # 1;", 1, 12);
        lawIs("free when N;", 1, 10);
        lawIs("free when n2;", 1, 11);
        lawIs("free when nz;", 1, 10);
        lawIs("free when an;", 1, 10);
        lawIs("free when n/n;", 1, 11);
        lawIs("free when {n;", 1, 10);
        lawIs("free when `n;", 1, 10);
        lawIs("first first on sale", 1, 6);
        lawIs("first day on sale", 1, 6);
        lawIs("first kin on need", 1, 13);
        lawIs("first kin on has", 1, 13);
        lawIs("first kin on sale need within", 1, 18);
        lawIs("free when kin;", 1, 10);
        lawIs("free when told;", 1, 10);
        lawIs("free;", 1, 4);
        lawIs("price heads;", 1, 6);
        lawIs("parts paid;", 1, 6);
        lawIs("price paid told;", 1, 11);
        lawIs("price", 1, 5);
        lawIs("price told;parts heads;price", 3, 23);
        lawIs("parts shares;parts shares;", 3, 13);
        lawIs("maybe price told;", 1, 6);
        lawIs("price told;maybe price", 1, 17);
        lawIs("maybe parts heads;", 1, 6);
        lawIs("maybe maybe free when 1;", 1, 6);
        lawIs("maybe", 1, 5);
        lawIs("maybe;", 1, 5);
        lawIs("free when 1;;", 1, 12);
        lawIs("firstkin on sale within 1;", 1, 0);
        lawIs("first kin on sale within 1 when 2:3;", 1, 33);
        lawIs("first kin on sale within 1when 2,3;", 1, 32);
    }

    /** What an earlier tape held or an earlier law took up is gone. */
    private static void manyLaws() {
        promise = 11;
        FirstComer x = Told.parcels(2);
        x.beside(0, 1, 0);
        due("12 on the tape", Told.law(x, "free when 12;"), 0);
        due("1 at the end", Told.law(x, "free when 1"), 1 + 16 * 11);
        due("a long word on the tape", Told.law(x, "free when nnnnnnnnnnnnnnnn"), 1 + 16 * 10);
        due("n at the end", Told.law(x, "free when n"), 1 + 16 * 11);
        String long400 = "free when 0" + Told.times(195, "*n") + ";";
        for (int i = 0; i < 12; i++) {
            due("a long one", Told.law(x, long400 + "first side on sale within 1 when n=" + (i + 1) + ";"), 0);
            due("not so", x.would(0, 0, 9, 12 - i, SALE, 1, 1), i + 1 == 12 - i ? 2 : 0);
            due("so", x.would(0, 0, 9, i + 1, SALE, 1, 1), 2);
        }
        due("parts and price are told anew", Told.law(x, "price paid;parts shares;"), 0);
        due("parts and price are told anew", Told.law(x, "price paid;parts shares;"), 0);
        due("parts and price are told anew", Told.law(x, "price paid;parts shares;"), 0);
        due("without price it is told", Told.law(x, ""), 0);
        due("price told", x.look(x.pass(0, 0, 9, 1, SALE, 7, 3), 11), 7);
        String full = "first side on sale within 1 when n=1" + Told.times(480, "*1") + "  ;";
        due("a tape that is full", Told.feed(x, full), 999);
        due("a tape that is full", Told.feed(x, " "), 1000);
        due("a tape that is full", x.law(), 0);
        Told.feed(x, "free when 1" + Told.times(494, "+1") + "9");
        due("a number at the very end", x.count(7), 1000);
        due("a number at the very end", x.law(), 1 + 16 * 1000);
        Told.feed(x, "free when n" + Told.times(494, "+n") + "n");
        due("a word at the very end", x.law(), 1 + 16 * 998);
    }

    private static void tooMany() {
        promise = 11;
        String free = "free when 1;";
        String first = "first kin on sale within 1;";
        lawIs(Told.times(12, free), 0, 0);
        lawIs(Told.times(13, free), 5, 144);
        lawIs(Told.times(12, first) + "free x", 5, 12 * 27);
        lawIs(Told.times(12, free) + "first", 5, 144);
        lawIs(Told.times(12, free) + " firs", 1, 145);
        lawIs(Told.times(12, free) + "maybe " + free, 0, 0);
        lawIs(Told.times(12, free) + Told.times(6, "maybe " + free), 0, 0);
        lawIs(Told.times(6, "maybe " + free), 0, 0);
        lawIs(Told.times(7, "maybe " + free), 5, 6 * 18);
        lawIs(Told.times(6, "maybe " + free) + "maybe price", 5, 6 * 18);
        lawIs(Told.times(6, "maybe " + free) + Told.times(13, free), 5, 6 * 18 + 12 * 12);
        lawIs(Told.times(12, free) + "price paid;parts heads;", 0, 0);
        FirstComer x = new FirstComer();
        Told.law(x, Told.times(3, free) + Told.times(2, "maybe " + free) + first);
        due("in force", x.count(4), 4);
        due("with maybe", x.count(5), 2);
    }

    private static void nesting() {
        promise = 11;
        lawIs("free when not not not not 1;", 0, 0);
        lawIs("free when ((((1))));", 0, 0);
        lawIs("free when (not (not 1)) and ((((1))));", 0, 0);
        lawIs("free when not not not not not 1;", 5, 30);
        lawIs("free when not not not not not not 1;", 5, 30);
        lawIs("free when (((((1)))));", 5, 15);
        lawIs("free when ((((((1))))));", 5, 15);
        lawIs("free when (((((;", 1, 15);
        lawIs("free when (((((", 1, 15);
        lawIs("free when (((((?", 1, 15);
        lawIs("free when not(not(not n));", 5, 22);
        lawIs("free when not(not(n)) + not(not(n));", 0, 0);
        lawIs("free when ((((1 + n))) * (((1 + day))));", 0, 0);
    }

    /** Whether a condition is so at a sale of 3 twelfths of 12 at 20, paid 7, to one who has nothing. */
    private static void so(String condition, boolean is) {
        FirstComer x = Told.parcels(2, "first side on sale within 1 when " + condition + ";");
        x.beside(0, 1, 0);
        due(condition, x.would(0, 0, 9, 3, SALE, 20, 7), is ? 2 : 0);
    }

    private static void expressions() {
        promise = 11;
        so("1", true);
        so("0", false);
        so("2 = 2", true);
        so("2 < 2", false);
        so("1 < 2", true);
        so("2 + 3 * 4 = 14", true);
        so("(2 + 3) * 4 = 20", true);
        so("9 - 3 - 2 = 4", true);
        so("1 - 2 < 0", true);
        so("0 and 0 or 1", true);
        so("1 or 1 and 0", false);
        so("1 or (1 and 0)", true);
        so("not 5 = 0", true);
        so("not 0 = 1", true);
        so("not 0 + 1 = 2", true);
        so("(5 and 7) = 1", true);
        so("(0 or 7) = 1", true);
        so("5 - 5", false);
        so("0 - 1", true);
        so("(3 < 4) + (4 = 4) = 2", true);
        so("9999 * 9999 * 9999 < 0", 9999 * 9999 * 9999 < 0);
        so("9999 * 9999 * 99 < 0", 9999 * 9999 * 99 < 0);
        so("8192*4096*64<0", true);
        so("8192*4096*64-1<0", false);
        so("2 * not 0 * 3 = 6", true);
        so("1<2 and 2<1 or 3=3 and 4", true);
    }

    private static void facts() {
        promise = 14;
        so("n = 3", true);
        so("price = 20", true);
        so("paid = 7", true);
        so("keeps = 9", true);
        so("estate = 9", true);
        so("has", false);
        so("sale", true);
        so("gift", false);
        so("swap", false);
        so("need", false);
        so("holds", false);
        so("owns = 1", true);
        so("degree", false);
        so("day", false);
        FirstComer x = Told.parcels(3, "first kin on gift swap within 1 when estate = 21 and keeps = 9 and has = 2 and holds = 2 and owns = 1 and degree = 3 and day = 4;");
        x.part(1, 1, 0, 12);
        x.part(2, 2, 9, 1);
        x.part(1, 0, 9, 1);
        x.part(0, 0, 4, 2);
        x.kin(0, 4, 3);
        x.days(4);
        due("estate counts what goes", x.would(0, 0, 9, 1, GIFT, 0, 0), 0);
        x.part(1, 9, 0, 1);
        x.parcel(5, 9);
        due("all facts", x.would(0, 0, 9, 1, GIFT, 0, 0), 16);
        due("by a swap, too", x.would(0, 0, 9, 1, SWAP, 7, 8), 16);
        due("not by a sale", x.would(0, 0, 9, 1, SALE, 0, 0), 0);
        due("another n", x.would(0, 0, 9, 2, GIFT, 0, 0), 0);
    }

    private static void holding() {
        promise = 12;
        FirstComer x = Told.parcels(1);
        x.part(0, 0, 15, 4);
        due("holds(0, 0)", x.holds(0, 0), 8);
        due("holds(0, 15)", x.holds(0, 15), 4);
        due("holds(0, 1)", x.holds(0, 1), 0);
        due("not told", x.holds(1, 0), -1);
        due("no such parcel", x.holds(12, 0), -1);
        due("no such parcel", x.holds(-1, 0), -1);
        due("no such one", x.holds(0, 16), -1);
        due("no such one", x.holds(0, -1), -1);
    }

    private static void standing() {
        promise = 13;
        FirstComer x = Told.parcels(3);
        x.beside(0, 1, 2);
        x.water(0, 2);
        x.kin(0, 5, 3);
        x.part(0, 0, 5, 1);
        x.part(1, 1, 5, 1);
        x.part(2, 2, 5, 1);
        due("all four", x.stands(0, 0, 5), 15);
        due("not kin of another seller", x.stands(0, 1, 5), 14);
        due("side", x.stands(0, 0, 1), 4);
        due("water", x.stands(0, 0, 2), 8);
        due("the seller of himself", x.stands(0, 0, 0), 2);
        due("nothing", x.stands(0, 0, 9), 0);
        due("not told", x.stands(3, 0, 0), -1);
        due("no such parcel", x.stands(-1, 0, 0), -1);
        due("no such seller", x.stands(0, 16, 0), -1);
        due("no such one", x.stands(0, 0, -1), -1);
        x.part(1, 5, 1, 1);
        due("side no more", x.stands(0, 0, 5), 11);
    }

    private static void passing() {
        promise = 14;
        FirstComer x = Told.parcels(1);
        due("the first", x.pass(0, 0, 1, 5, SALE, 9999, 0), 0);
        due("seller", x.holds(0, 0), 7);
        due("buyer", x.holds(0, 1), 5);
        due("the second", x.pass(0, 0, 2, 7, GIFT, 0, 0), 1);
        due("the third", x.pass(0, 1, 2, 5, SWAP, 0, 9999), 2);
        due("does not hold so many", x.pass(0, 0, 2, 1, SALE, 0, 0), -1);
        due("the same", x.pass(0, 2, 2, 1, SALE, 0, 0), -1);
        due("not told", x.pass(1, 2, 3, 1, SALE, 0, 0), -1);
        due("no such parcel", x.pass(12, 2, 3, 1, SALE, 0, 0), -1);
        due("no such seller", x.pass(0, 16, 3, 1, SALE, 0, 0), -1);
        due("no such buyer", x.pass(0, 2, -1, 1, SALE, 0, 0), -1);
        due("n 0", x.pass(0, 2, 3, 0, SALE, 0, 0), -1);
        due("n 13", x.pass(0, 2, 3, 13, SALE, 0, 0), -1);
        due("form 3", x.pass(0, 2, 3, 1, 3, 0, 0), -1);
        due("form -1", x.pass(0, 2, 3, 1, -1, 0, 0), -1);
        due("price 10000", x.pass(0, 2, 3, 1, SALE, 10000, 0), -1);
        due("paid 10000", x.pass(0, 2, 3, 1, SALE, 0, 10000), -1);
        due("price -1", x.pass(0, 2, 3, 1, SALE, -1, 0), -1);
        due("paid -1", x.pass(0, 2, 3, 1, SWAP, 0, -1), -1);
        due("a gift with a price", x.pass(0, 2, 3, 1, GIFT, 1, 0), -1);
        due("a gift that was paid", x.pass(0, 2, 3, 1, GIFT, 0, 1), -1);
        due("three", x.count(2), 3);
        for (int i = 3; i < 40; i++) {
            int from = x.holds(0, 2) == 12 ? 2 : 0;
            due("more", x.pass(0, from, 2 - from, 12, SALE, 0, 0), i);
        }
        int from = x.holds(0, 2) == 12 ? 2 : 0;
        due("40 are there", x.pass(0, from, 2 - from, 12, SALE, 0, 0), -1);
        due("but would() answers", x.would(0, from, 2 - from, 12, SALE, 0, 0), 0);
    }

    private static void woulds() {
        promise = 15;
        FirstComer x = Told.parcels(4, "first side on sale within 1;first water on sale gift within 2 when 3<n;first share on swap within 3;");
        x.beside(0, 1, 0);
        x.water(0, 2);
        x.part(0, 0, 15, 1);
        due("sale of 4", x.would(0, 0, 9, 4, SALE, 1, 1), 6);
        due("sale of 3", x.would(0, 0, 9, 3, SALE, 1, 1), 2);
        due("gift of 4", x.would(0, 0, 9, 4, GIFT, 0, 0), 4);
        due("swap", x.would(0, 0, 9, 1, SWAP, 1, 1), 1 << 15);
        due("nothing changed", x.holds(0, 0), 11);
        due("no passing", x.count(2), 0);
        due("does not hold so many", x.would(0, 0, 9, 12, SALE, 1, 1), -1);
        due("the same", x.would(0, 0, 0, 1, SALE, 1, 1), -1);
        due("a gift with a price", x.would(0, 0, 9, 1, GIFT, 1, 0), -1);
        due("not told", x.would(7, 0, 9, 1, SALE, 1, 1), -1);
        due("n 0", x.would(0, 0, 9, 0, SALE, 1, 1), -1);
        due("form 3", x.would(0, 0, 9, 1, 3, 1, 1), -1);
        due("paid 10000", x.would(0, 0, 9, 1, SALE, 1, 10000), -1);
        due("no such one", x.would(0, 0, 16, 1, SALE, 1, 1), -1);
    }

    private static void ranksAndFree() {
        promise = 15;
        FirstComer x = Told.parcels(3, "maybe first share on sale within 1;free when 100<price;first kin on sale within 1;first side on sale within 2;first water on sale within 3;");
        x.kin(0, 4, 1);
        x.kin(0, 5, 1);
        x.beside(0, 1, 0);
        x.water(0, 2);
        x.part(0, 0, 7, 1);
        due("all but by maybe", x.would(0, 0, 9, 1, SALE, 1, 1), 2 + 4 + 16 + 32);
        due("free", x.would(0, 0, 9, 1, SALE, 101, 1), 0);
        due("the buyer is kin: none", x.would(0, 0, 4, 1, SALE, 1, 1), 0);
        due("the buyer is beside: kin", x.would(0, 0, 1, 1, SALE, 1, 1), 16 + 32);
        due("the buyer by water: kin, side", x.would(0, 0, 2, 1, SALE, 1, 1), 2 + 16 + 32);
        int p = x.pass(0, 0, 2, 1, SALE, 1, 1);
        due("ranks count lines with first in force alone", x.may(p, 4), 0);
        due("side is 1", x.may(p, 1), 1);
        due("the buyer's rank", x.look(p, 9), 2);
        due("the buyer may not", x.may(p, 2), -1);
        int q = x.pass(0, 0, 2, 1, SALE, 101, 1);
        due("free", x.look(q, 8), 1);
        due("nobody may", x.may(q, 4), -1);
        due("the buyer has his rank all the same", x.look(q, 9), 2);
        FirstComer y = Told.parcels(2, "first kin on sale within 1 when 5<n;first side on sale within 2;");
        y.beside(0, 1, 0);
        y.kin(0, 1, 1);
        due("the first line that holds", y.may(y.pass(0, 0, 9, 1, SALE, 1, 1), 1), 1);
        due("the first line that holds", y.may(y.pass(0, 0, 9, 6, SALE, 1, 1), 1), 0);
        FirstComer z = Told.parcels(2, "first share on sale within 1;");
        due("the seller has none", z.would(0, 0, 9, 1, SALE, 1, 1), 0);
        due("the buyer who shares: none", shared(z), 0);
    }

    private static int shared(FirstComer z) {
        z.part(0, 0, 3, 1);
        z.part(0, 0, 4, 1);
        return z.would(0, 0, 3, 1, SALE, 1, 1);
    }

    private static void looking() {
        promise = 16;
        FirstComer x = Told.parcels(1, "first kin on sale within 1;");
        x.days(7);
        int p = x.pass(0, 0, 3, 5, SWAP, 30, 20);
        int[] want = {0, 0, 3, 5, SWAP, 30, 20, 7, 0, -1, -1, 30};
        for (int what = 0; what < want.length; what++) {
            due("look(0, " + what + ")", x.look(p, what), want[what]);
        }
        Told.law(x, "price paid;first kin on sale within 1;");
        due("the law of then", x.look(p, 11), 30);
        int q = x.pass(0, 0, 3, 5, SALE, 30, 20);
        due("price paid", x.look(q, 11), 20);
        yes("passing 2", lookThrows(x, 2, 0));
        yes("passing -1", lookThrows(x, -1, 0));
        yes("what 12", lookThrows(x, 0, 12));
        yes("what -1", lookThrows(x, 0, -1));
        yes("a new one has none", lookThrows(new FirstComer(), 0, 0));
        no("there is one", lookThrows(x, 1, 11));
    }

    private static void mayAndOrder() {
        promise = 17;
        FirstComer x = Told.parcels(4, "first water on sale within 1;first side on sale within 1;first kin on sale within 1;");
        x.water(0, 3);
        x.beside(0, 2, 0);
        x.beside(0, 1, 0);
        x.kin(0, 1, 2);
        x.kin(0, 7, 2);
        int p = x.pass(0, 0, 9, 12, SALE, 1, 1);
        due("may", x.may(p, 3), 0);
        due("may", x.may(p, 2), 1);
        due("may by his first line", x.may(p, 1), 1);
        due("may", x.may(p, 7), 2);
        due("the seller", x.may(p, 0), -1);
        due("the buyer", x.may(p, 9), -1);
        due("no such one", x.may(p, 16), -1);
        due("no such one", x.may(p, -1), -1);
        due("no such passing", x.may(p + 1, 3), -1);
        due("no such passing", x.may(-1, 3), -1);
        Told.law(x, "");
        due("by the law of then", x.may(p, 3), 0);
        promise = 18;
        int[] want = {3, 1, 2, 7, -1};
        for (int i = 0; i < want.length; i++) {
            due("order(0, " + i + ")", x.order(p, i), want[i]);
        }
        due("order(0, -1)", x.order(p, -1), -1);
        due("no such passing", x.order(1, 0), -1);
        due("no such passing", x.order(-1, 0), -1);
        x.waive(p, 3);
        due("who waived may still", x.order(p, 0), 3);
    }

    private static FirstComer heardOf() {
        FirstComer x = Told.parcels(3, "first kin on sale within 3;first side on sale within 0;");
        x.kin(0, 1, 1);
        x.beside(0, 2, 1);
        x.days(10);
        x.pass(0, 0, 9, 12, SALE, 5, 4);
        x.days(10);
        return x;
    }

    private static void hearing() {
        promise = 19;
        FirstComer x = heardOf();
        no("ahead of it", x.hears(0, 1, 9));
        no("behind NOW", x.hears(0, 1, 21));
        yes("on its day", x.hears(0, 1, 10));
        no("he did", x.hears(0, 1, 10));
        no("he did, another day", x.hears(0, 1, 12));
        yes("NOW", x.hears(0, 2, 20));
        yes("one who may not hears, too", x.hears(0, 8, 15));
        no("once", x.hears(0, 8, 15));
        yes("the buyer", x.hears(0, 9, 15));
        no("no such passing", x.hears(1, 3, 15));
        no("no such passing", x.hears(-1, 3, 15));
        no("no such one", x.hears(0, 16, 15));
        no("no such one", x.hears(0, -1, 15));
        no("day -1", x.hears(0, 3, -1));
    }

    private static void tills() {
        promise = 20;
        FirstComer x = heardOf();
        due("did not hear", x.till(0, 1), -1);
        x.hears(0, 1, 18);
        x.hears(0, 2, 19);
        x.hears(0, 8, 19);
        due("18 and 3 more", x.till(0, 1), 21);
        due("19 and none", x.till(0, 2), 19);
        due("he may not", x.till(0, 8), -1);
        due("no such one", x.till(0, 16), -1);
        due("no such passing", x.till(1, 1), -1);
        due("no such passing", x.till(-1, 1), -1);
        Told.law(x, "first kin on sale within 9;");
        due("by the law of then", x.till(0, 1), 21);
        x.days(1);
        due("in time on the last day", x.claim(0, 1, 0), 4);
        x.days(1);
        due("late the day behind", x.claim(0, 1, 0), 2);
        due("till stays", x.till(0, 1), 21);
    }

    private static void waiving() {
        promise = 21;
        FirstComer x = heardOf();
        yes("he waives", x.waive(0, 1));
        no("did already", x.waive(0, 1));
        no("he may not", x.waive(0, 8));
        no("the buyer", x.waive(0, 9));
        no("the seller", x.waive(0, 0));
        no("no such passing", x.waive(1, 2));
        no("no such passing", x.waive(-1, 2));
        no("no such one", x.waive(0, 16));
        no("no such one", x.waive(0, -1));
        due("who waived has no claim", x.claim(0, 1, 99), 1);
        due("the next one may now", x.claim(0, 2, 99), 0);
    }

    private static void proving() {
        promise = 22;
        FirstComer x = Told.parcels(1, "price paid;first kin on sale gift within 1 when paid = 8;");
        x.kin(0, 1, 1);
        x.pass(0, 0, 9, 6, SALE, 10, 8);
        x.pass(0, 0, 9, 6, GIFT, 0, 0);
        yes("truly", x.truly(0, 3));
        due("paid", x.look(0, 6), 3);
        due("price told stays", x.look(0, 5), 10);
        due("price asked", x.look(0, 11), 3);
        due("who may stays", x.may(0, 1), 0);
        yes("0", x.truly(0, 0));
        yes("9999", x.truly(0, 9999));
        no("10000", x.truly(0, 10000));
        no("-1", x.truly(0, -1));
        no("a gift", x.truly(1, 0));
        no("no such passing", x.truly(2, 1));
        no("no such passing", x.truly(-1, 1));
        due("more coin now", x.claim(0, 1, 9998), 4);
        due("enough", x.claim(0, 1, 9999), 0);
        no("taken", x.truly(0, 5));
        due("paid stays", x.look(0, 6), 9999);
        FirstComer y = Told.parcels(1, "first kin on sale within 1;");
        y.kin(0, 1, 1);
        y.pass(0, 0, 9, 6, SALE, 10, 8);
        yes("truly", y.truly(0, 1));
        due("told is asked", y.claim(0, 1, 9), 4);
        due("told is asked", y.claim(0, 1, 10), 0);
    }

    private static void claims() {
        promise = 23;
        FirstComer x = heardOf();
        due("no such passing", x.claim(1, 1, 9), -1);
        due("no such passing", x.claim(-1, 1, 9), -1);
        due("no such one", x.claim(0, 16, 9), -1);
        due("no such one", x.claim(0, -1, 9), -1);
        due("coin below 0", x.claim(0, 1, -1), -1);
        due("he may not", x.claim(0, 8, 9), 1);
        due("a lesser rank may", x.claim(0, 2, 9), 3);
        x.hears(0, 1, 16);
        due("he is late", x.claim(0, 1, 9), 2);
        due("who is late stops nobody", x.claim(0, 2, 4), 4);
        x.part(0, 9, 8, 1);
        due("less coin goes ahead of it", x.claim(0, 2, 4), 4);
        due("the buyer does not hold them any more", x.claim(0, 2, 5), 5);
        x.part(0, 8, 9, 1);
        due("his", x.claim(0, 2, 5), 0);
        due("he holds them", x.holds(0, 2), 12);
        due("the buyer holds none", x.holds(0, 9), 0);
        due("taken by", x.look(0, 10), 2);
        due("taken", x.claim(0, 2, 5), 6);
        due("taken, for all", x.claim(0, 8, 0), 6);
        FirstComer y = Told.parcels(2, "first side on gift within 0;");
        y.beside(0, 1, 0);
        y.pass(0, 0, 9, 5, GIFT, 0, 0);
        y.days(1000);
        due("who did not hear is in time always, a gift costs nothing", y.claim(0, 1, 0), 0);
        due("all else stays", y.holds(0, 0), 7);
    }

    private static void parting() {
        promise = 24;
        FirstComer x = Told.parcels(4, "parts shares;first side on sale within 1;first share on gift within 1;first water on swap within 1;");
        x.beside(0, 1, 0);
        x.beside(0, 1, 1);
        x.beside(0, 2, 2);
        x.part(2, 2, 4, 4);
        x.part(0, 0, 5, 2);
        x.part(0, 0, 6, 1);
        x.water(0, 3);
        x.part(3, 3, 1, 5);
        int p = x.pass(0, 0, 9, 5, SALE, 1, 1);
        due("each parcel once: 5 * 12 / 24 and one more", x.parted(p, 1), 3);
        due("5 * 8 / 24 and one more", x.parted(p, 2), 2);
        due("5 * 4 / 24", x.parted(p, 4), 0);
        due("he may not", x.parted(p, 5), -1);
        due("no such one", x.parted(p, 16), -1);
        due("no such one", x.parted(p, -1), -1);
        int q = x.pass(0, 0, 8, 4, GIFT, 0, 0);
        due("4 * 2 / 8 and what is left", x.parted(q, 5), 2);
        due("4 * 1 / 8", x.parted(q, 6), 0);
        due("4 * 5 / 8", x.parted(q, 9), 2);
        Told.law(x, "");
        due("by the law of then", x.parted(q, 9), 2);
        x.part(0, 5, 7, 2);
        due("by what they held then", x.parted(q, 5), 2);
        due("no such passing", x.parted(2, 1), -1);
        due("no such passing", x.parted(-1, 1), -1);
        FirstComer y = Told.parcels(1, "parts shares;first kin on sale within 1;first share on sale within 1;");
        y.kin(0, 3, 1);
        y.kin(0, 4, 3);
        y.kin(0, 5, 1);
        y.part(0, 0, 6, 1);
        int r = y.pass(0, 0, 9, 11, SALE, 1, 1);
        y.waive(r, 4);
        due("kin count one each, waived or not", y.parted(r, 3), 4);
        due("kin", y.parted(r, 4), 4);
        due("kin", y.parted(r, 5), 3);
        due("another rank gets all", y.parted(r, 6), 11);
        FirstComer z = Told.parcels(1, "first kin on sale within 1;");
        for (int i = 1; i <= 5; i++) {
            z.kin(0, i, 1);
        }
        int s = z.pass(0, 0, 9, 3, SALE, 1, 1);
        int[] heads = {-1, 1, 1, 1, 0, 0, -1};
        for (int i = 0; i < heads.length; i++) {
            due("by heads", z.parted(s, i), heads[i]);
        }
        FirstComer w = Told.parcels(3, "first water on sale within 1;parts shares;");
        w.water(0, 1);
        w.water(0, 2);
        w.part(2, 2, 1, 6);
        int t = w.pass(0, 0, 9, 12, SALE, 1, 1);
        due("by water: 12 * 18 / 24", w.parted(t, 1), 9);
        due("by water: 12 * 6 / 24", w.parted(t, 2), 3);
    }

    private static void rowIs(FirstComer x, int parcel, int owner, int stranger, int each, int... row) {
        int length = row.length / 3;
        promise = 25;
        due("sly", x.sly(parcel, owner, stranger, each), length == 0 ? -1 : length);
        promise = 26;
        for (int i = 0; i < row.length; i++) {
            due("slyRow " + i / 3 + ", " + i % 3, x.slyRow(parcel, owner, stranger, each, i / 3, i % 3), row[i]);
        }
        due("slyRow behind its end", x.slyRow(parcel, owner, stranger, each, length, 0), -1);
        due("slyRow ahead of it", x.slyRow(parcel, owner, stranger, each, -1, 0), -1);
        due("slyRow of what 3", x.slyRow(parcel, owner, stranger, each, 0, 3), -1);
        due("slyRow of what -1", x.slyRow(parcel, owner, stranger, each, 0, -1), -1);
    }

    private static void slyRows() {
        FirstComer x = Told.parcels(2);
        x.beside(0, 1, 0);
        rowIs(x, 0, 0, 5, 0, 0, 12, SALE);
        Told.law(x, "first side on sale swap within 1;");
        rowIs(x, 0, 0, 5, 800, 0, 12, GIFT);
        Told.law(x, "first side on sale gift within 1;");
        rowIs(x, 0, 0, 5, 800, 0, 12, SWAP);
        Told.law(x, "first side on sale gift swap within 1;");
        rowIs(x, 0, 0, 5, 1);
        rowIs(x, 0, 0, 1, 1, 0, 12, SALE);
        Told.law(x, "first side on sale gift swap within 1;first share on sale gift swap within 1;");
        x.part(0, 0, 5, 1);
        rowIs(x, 0, 0, 5, 1);
        Told.law(x, "first share on sale gift swap within 1;first side on sale gift swap within 1;");
        rowIs(x, 0, 0, 5, 1, 0, 11, SALE);
        Told.law(x, "first side on sale gift swap within 1 when 5<n;");
        rowIs(x, 0, 0, 5, 1, 0, 1, SALE, 0, 5, SALE, 0, 5, SALE);
        Told.law(x, "first side on sale gift swap within 1 when 3<n and keeps<5;");
        rowIs(x, 0, 0, 5, 1, 0, 5, SALE, 0, 3, SALE, 0, 3, SALE);
        Told.law(x, "first side on sale swap within 1 when 10<price;first side on gift within 1 when not (n=9);");
        rowIs(x, 0, 0, 5, 5, 0, 2, SALE, 0, 9, GIFT);
        rowIs(x, 0, 0, 5, 6, 0, 1, SALE, 0, 1, SALE, 0, 9, GIFT);
        rowIs(x, 0, 0, 5, 11);
        rowIs(x, 0, 0, 5, 0, 0, 11, SALE);
        Told.law(x, "first side on sale gift swap within 1 when 1<n;");
        due("eleven ones", x.sly(0, 0, 5, 1), 11);
        promise = 25;
        due("not told", x.sly(2, 0, 5, 1), -1);
        due("no such parcel", x.sly(-1, 0, 5, 1), -1);
        due("the same", x.sly(0, 0, 0, 1), -1);
        due("no such owner", x.sly(0, 16, 5, 1), -1);
        due("no such stranger", x.sly(0, 0, -1, 1), -1);
        due("holds none", x.sly(0, 1, 5, 1), -1);
        due("each 801", x.sly(0, 0, 5, 801), -1);
        due("each -1", x.sly(0, 0, 5, -1), -1);
        promise = 26;
        due("not told", x.slyRow(2, 0, 5, 1, 0, 0), -1);
        due("the same", x.slyRow(0, 0, 0, 1, 0, 0), -1);
        due("each 801", x.slyRow(0, 0, 5, 801, 0, 0), -1);
        due("holds none", x.slyRow(0, 1, 5, 1, 0, 0), -1);
        due("nothing went", x.holds(0, 0), 11);
        due("no passings", x.count(2), 0);
    }

    private static void slyWithOther() {
        FirstComer x = Told.parcels(4);
        x.kin(0, 7, 1);
        x.parcel(9, 0);
        x.parcel(6, 0);
        Told.law(x, "first kin on sale gift swap within 1 when not has;");
        rowIs(x, 0, 0, 5, 1);
        Told.law(x, "first kin on sale gift swap within 1 when not has and not (n=2);");
        rowIs(x, 0, 0, 5, 1, 0, 2, SALE, 0, 10, SALE);
        // Now what the owner holds beside the parcel that goes tells this one from the other one.
        x.part(6, 0, 1, 1);
        Told.law(x, "first kin on sale gift swap within 1 when not has and not (estate-keeps=24);");
        rowIs(x, 0, 0, 5, 1, 6, 1, SALE, 0, 12, SALE);
        Told.law(x, "first kin on sale swap within 1;first kin on gift within 1 when not has and not (estate-keeps=24 and n=3);");
        rowIs(x, 0, 0, 5, 1, 6, 3, GIFT, 0, 12, GIFT);
        rowIs(x, 9, 0, 5, 1);
        Told.law(x, "first kin on sale gift swap within 1 when 23<estate-keeps or 1<n and not (estate-keeps=12);");
        due("a row needs the other one's twelfths gone", x.sly(0, 0, 5, 1), 12);
        promise = 25;
        FirstComer y = Told.parcels(2, "first kin on sale gift swap within 1 when estate<12;");
        y.kin(0, 7, 1);
        due("of one parcel", y.sly(0, 0, 5, 1), -1);
        y.part(1, 1, 0, 12);
        due("of two", y.sly(0, 0, 5, 1), 1);
        due("the other one's row", y.sly(1, 0, 5, 1), 1);
    }

    /** What is told again must be what is so now, whatever changed it. */
    private static void slyAgain() {
        promise = 25;
        FirstComer x = Told.parcels(3, "first side on sale gift swap within 1 when not (day=3) and not need;first water on sale gift swap within 1;first kin on sale gift swap within 1 when degree=1;");
        due("open", x.sly(0, 0, 5, 1), 1);
        x.beside(0, 1, 0);
        due("a neighbour", x.sly(0, 0, 5, 1), -1);
        x.need(1, true);
        due("he needs", x.sly(0, 0, 5, 1), 1);
        x.need(1, false);
        due("he needs no more", x.sly(0, 0, 5, 1), -1);
        x.days(3);
        due("day 3", x.sly(0, 0, 5, 1), 1);
        x.water(0, 2);
        due("by water", x.sly(0, 0, 5, 1), -1);
        x.part(2, 2, 0, 12);
        due("the seller's own", x.sly(0, 0, 5, 1), 1);
        x.kin(0, 4, 1);
        due("kin", x.sly(0, 0, 5, 1), -1);
        x.kin(0, 4, 2);
        due("kin further off", x.sly(0, 0, 5, 1), 1);
        x.mark(0, false);
        x.days(1);
        due("day 4", x.sly(0, 0, 5, 1), -1);
        due("of the other parcel", x.sly(2, 0, 5, 1), 1);
        x.mark(0, true);
        due("back on day 3", x.sly(0, 0, 5, 1), 1);
        x.pass(2, 0, 8, 12, SALE, 0, 0);
        due("water again", x.sly(0, 0, 5, 1), -1);
        Told.law(x, "first kin on sale within 1;first side on sale gift swap within 1 when owns=1;");
        due("another law", x.sly(0, 0, 5, 1), -1);
        x.parcel(7, 1);
        due("the neighbour owns two", x.sly(0, 0, 5, 1), 1);
        due("by a gift", x.slyRow(0, 0, 5, 1, 0, 2), GIFT);
        Told.law(x, "first side on sale gift swap within 1 when holds=0 and owns=1;first kin on sale gift within 1;");
        due("by a swap", x.slyRow(0, 0, 5, 1, 0, 2), SWAP);
        FirstComer y = Told.parcels(2, "first side on sale within 9;first share on sale gift swap within 1;");
        y.beside(1, 0, 0);
        y.pass(1, 1, 9, 5, SALE, 3, 3);
        due("open to a sharer", y.sly(1, 1, 9, 1), 1);
        due("by a gift", y.slyRow(1, 1, 9, 1, 0, 2), GIFT);
        due("claimed", y.claim(0, 0, 3), 0);
        due("a neighbour who shares", y.sly(1, 1, 9, 1), -1);
        due("each of them asked in turn", y.sly(1, 1, 0, 1), 1);
        due("each of them asked in turn", y.sly(1, 1, 9, 1), -1);
        due("each of them asked in turn", y.sly(1, 0, 1, 1), 1);
        due("another owner", y.sly(1, 1, 9, 1), -1);
        due("another owner: he gets by the other parcel to be a neighbour", y.sly(1, 0, 9, 1), 2);
        due("another parcel", y.sly(0, 0, 9, 1), 1);
        due("another parcel", y.sly(0, 1, 9, 1), -1);
        Told.law(y, "first share on sale gift swap within 1 when gift or 12<price+n;");
        due("another price", y.sly(1, 1, 9, 2), 2);
        due("another price", y.sly(1, 1, 9, 0), 1);
        due("another price", y.sly(1, 1, 9, 2), 2);
    }

    /** All 24 twelfths one by one: this parcel's last one must wait for all of the other one. */
    private static void longestRow() {
        FirstComer x = Told.parcels(3, "first side on sale gift swap within 1 when keeps=0 and 0<estate;first kin on sale gift swap within 1 when 1<n;");
        x.part(1, 1, 0, 12);
        x.beside(0, 2, 0);
        x.kin(0, 6, 1);
        int[] row = new int[72];
        for (int i = 0; i < 24; i++) {
            row[3 * i] = i < 11 || i == 23 ? 0 : 1;
            row[3 * i + 1] = 1;
            row[3 * i + 2] = SALE;
        }
        rowIs(x, 0, 0, 5, 1, row);
        due("far behind its end", x.slyRow(0, 0, 5, 1, Integer.MAX_VALUE, 0), -1);
        promise = 29;
        mendedIs(x, 1, -1, -1);
        x.part(1, 0, 1, 1);
        x.kin(0, 6, 0);
        mendedIs(x, 1, -1, -1);
    }

    private static void farAgain() {
        promise = 27;
        FirstComer x = Told.parcels(3, "first kin on sale gift swap within 1 when day=2 or 2<owns;first side on sale gift swap within 1 when not need;");
        farIs(x, 9, 2, 1, 2, 2, 3);
        x.kin(0, 5, 1);
        farIs(x, 9, 2, 1, 2, 2, 3);
        x.days(2);
        farIs(x, 9, 2, 1, 2, 2, 6);
        x.care(5, false);
        farIs(x, 9, 2, 1, 2, 2, 3);
        x.beside(0, 2, 3);
        farIs(x, 9, 2, 1, 1, 1, 2);
        x.need(0, true);
        farIs(x, 9, 2, 1, 2, 2, 5);
        x.parcel(3, 9);
        farIs(x, 9, 2, 1, 3, 2, 13);
        x.mark(0, false);
        x.pass(3, 9, 1, 2, SALE, 0, 0);
        farIs(x, 9, 2, 1, 2, 2, 5);
        x.mark(0, true);
        farIs(x, 9, 2, 1, 3, 2, 13);
        x.part(1, 1, 4, 1);
        farIs(x, 9, 3, 1, 3, 2, 13);
        Told.law(x, "");
        farIs(x, 9, 1, 1, 2, 1, 9);
        x.part(1, 4, 1, 1);
        farIs(x, 9, 3, 1, 4, 3, 15);
        farIs(x, 8, 3, 1, 3, 3, 7);
        farIs(x, 9, 3, 1, 4, 3, 15);
        farIs(x, 9, 2, 1, 3, 2, 11);
        // Who has sold his own stands there no more.
        FirstComer y = Told.parcels(2, "first side on sale gift swap within 1 when need and price<24;");
        y.beside(0, 1, 0);
        y.need(1, true);
        farIs(y, 9, 1, 1, 1, 1, 2);
        farIs(y, 9, 2, 1, 2, 2, 3);
        farIs(y, 9, 1, 2, 1, 1, 1);
        farIs(y, 9, 1, 1, 1, 1, 2);
    }

    private static void farIs(FirstComer x, int stranger, int years, int each, int... want) {
        for (int what = 0; what < want.length; what++) {
            due("far(" + stranger + ", " + years + ", " + each + ", " + what + ")", x.far(stranger, years, each, what), want[what]);
        }
    }

    private static void howFar() {
        promise = 27;
        FirstComer x = Told.parcels(4);
        farIs(x, 9, 9, 0, 4, 4, 15);
        farIs(x, 9, 3, 0, 3, 3, 7);
        farIs(x, 2, 2, 0, 3, 2, 7);
        Told.law(x, "first side on sale gift swap within 1;");
        x.beside(0, 1, 0);
        x.beside(1, 2, 0);
        farIs(x, 9, 9, 0, 1, 1, 8);
        x.beside(3, 2, 0);
        farIs(x, 9, 9, 0, 0, 0, 0);
        farIs(x, 0, 1, 0, 2, 1, 3);
        farIs(x, 0, 9, 0, 4, 3, 15);
        x.care(2, false);
        farIs(x, 9, 1, 0, 1, 1, 8);
        farIs(x, 9, 2, 0, 2, 2, 12);
        farIs(x, 9, 3, 0, 3, 3, 14);
        farIs(x, 9, 9, 0, 4, 4, 15);
        x.part(2, 2, 4, 1);
        farIs(x, 9, 9, 0, 0, 0, 0);
        x.care(4, false);
        farIs(x, 9, 9, 0, 1, 1, 8);
        due("what 3", x.far(9, 1, 0, 3), -1);
        due("what -1", x.far(9, 1, 0, -1), -1);
        due("no years", x.far(9, 0, 0, 0), -1);
        due("ten years", x.far(9, 10, 0, 0), -1);
        due("each 801", x.far(9, 1, 801, 0), -1);
        due("each -1", x.far(9, 1, -1, 0), -1);
        due("no such one", x.far(16, 1, 0, 0), -1);
        due("no such one", x.far(-1, 1, 0, 0), -1);
        due("nothing went", x.holds(3, 3), 12);
        FirstComer y = Told.parcels(2, "first side on sale swap gift within 1 when price<12;");
        y.beside(0, 1, 0);
        farIs(y, 9, 1, 0, 0, 0, 0);
        farIs(y, 9, 1, 1, 1, 1, 1);
        farIs(y, 9, 1, 800, 1, 1, 1);
        FirstComer z = Told.parcels(12, "first side on sale swap gift within 1 when 0;");
        farIs(z, 15, 9, 3, 9, 9, 511);
    }

    private static void honestOnes() {
        promise = 28;
        FirstComer x = Told.parcels(1);
        no("not told", x.honest(1, 0, 1, 1, SALE, 1));
        no("no such parcel", x.honest(-1, 0, 1, 1, SALE, 1));
        no("the same", x.honest(0, 1, 1, 1, SALE, 1));
        no("no such seller", x.honest(0, 16, 1, 1, SALE, 1));
        no("no such buyer", x.honest(0, 0, -1, 1, SALE, 1));
        no("n 0", x.honest(0, 0, 1, 0, SALE, 1));
        no("n 13", x.honest(0, 0, 1, 13, SALE, 1));
        no("form 3", x.honest(0, 0, 1, 1, 3, 1));
        no("form -1", x.honest(0, 0, 1, 1, -1, 1));
        no("price 10000", x.honest(0, 0, 1, 1, SALE, 10000));
        no("price -1", x.honest(0, 0, 1, 1, SALE, -1));
        no("a gift with a price", x.honest(0, 0, 1, 1, GIFT, 1));
        due("none", x.count(6), 0);
        yes("a gift", x.honest(0, 0, 1, 12, GIFT, 0));
        yes("whoever holds what", x.honest(0, 5, 6, 12, SWAP, 9999));
        for (int i = 3; i <= 6; i++) {
            yes("one more, alike", x.honest(0, 5, 6, 1, SALE, 0));
        }
        no("6 are there", x.honest(0, 5, 6, 1, SALE, 0));
        due("six", x.count(6), 6);
    }

    private static void mendedIs(FirstComer x, int each, int lines, int bits) {
        due("mended, lines", x.mended(0, 0, 5, each, 0), lines);
        due("mended, bits", x.mended(0, 0, 5, each, 1), bits);
    }

    private static void mending() {
        promise = 29;
        FirstComer x = Told.parcels(3);
        x.beside(0, 1, 0);
        Told.law(x, "maybe first side on sale within 1;maybe first side on gift within 1;maybe first side on swap within 1;");
        mendedIs(x, 1, 3, 7);
        Told.law(x, "maybe first side on sale within 1;maybe first side on gift within 1;maybe first side on swap within 1;maybe first side on sale gift swap within 1;");
        mendedIs(x, 1, 1, 8);
        Told.law(x, "maybe first kin on sale within 1;maybe first side on swap gift sale within 1;maybe first side on sale gift swap within 1;");
        mendedIs(x, 1, 1, 2);
        yes("an honest one that is far off", x.honest(2, 2, 6, 12, SALE, 5));
        mendedIs(x, 1, 1, 2);
        yes("an honest one that can't be", x.honest(1, 5, 6, 12, SALE, 5));
        mendedIs(x, 1, 1, 2);
        yes("an honest one that is stopped alike", x.honest(1, 1, 6, 12, SALE, 5));
        mendedIs(x, 1, -1, -1);
        Told.law(x, "maybe first side on sale gift swap within 1 when not (price=5);maybe first side on sale gift swap within 1;");
        mendedIs(x, 1, 1, 1);
        mendedIs(x, 5, -1, -1);
        Told.law(x, "first side on sale gift swap within 1;maybe free when price=5;");
        mendedIs(x, 2, 1, 1);
        mendedIs(x, 5, -1, -1);
        x.part(1, 1, 3, 1);
        mendedIs(x, 2, 0, 0);
        mendedIs(x, 5, 0, 0);
        Told.law(x, "");
        mendedIs(x, 1, -1, -1);
        Told.law(x, "maybe first side on gift within 1;maybe first side on swap within 1;maybe first side on sale within 1;maybe free when 1;maybe first kin on sale within 1;maybe first side on gift within 1;");
        mendedIs(x, 1, 3, 7);
        Told.law(x, "maybe first share on sale gift swap within 1;first side on sale gift swap within 1;maybe first water on sale within 1;");
        mendedIs(x, 1, 0, 0);
        x.days(7);
        Told.law(x, "maybe first side on sale gift swap within 1 when day=7;maybe first side on sale gift swap within 1;");
        mendedIs(x, 1, 1, 1);
        x.days(1);
        mendedIs(x, 1, 1, 2);
        Told.law(x, "maybe first share on sale gift swap within 1;first side on sale gift swap within 1;maybe first water on sale within 1;");
        mendedIs(x, 1, 0, 0);
        due("what 2", x.mended(0, 0, 5, 1, 2), -1);
        due("what -1", x.mended(0, 0, 5, 1, -1), -1);
        due("not told", x.mended(3, 0, 5, 1, 0), -1);
        due("the same", x.mended(0, 0, 0, 1, 0), -1);
        due("no such one", x.mended(0, 0, 16, 1, 0), -1);
        due("no such one", x.mended(0, -1, 5, 1, 0), -1);
        due("holds none", x.mended(0, 1, 5, 1, 0), -1);
        due("each 801", x.mended(0, 0, 5, 801, 0), -1);
        due("each -1", x.mended(0, 0, 5, -1, 0), -1);
        Told.law(x, "maybe first side on sale gift swap within 1 when price<12;maybe first side on sale gift within 1;");
        mendedIs(x, 1, -1, -1);
        mendedIs(x, 0, 1, 1);
        mendedIs(x, 1, -1, -1);
        due("another parcel", x.mended(2, 2, 5, 0, 0), -1);
        due("this one", x.mended(0, 0, 5, 0, 0), 1);
        due("another stranger", x.mended(0, 0, 1, 0, 0), -1);
        due("of the side's parcel: another owner", x.mended(1, 1, 5, 0, 0), 1);
        x.part(1, 1, 0, 11);
        x.care(9, true);
        due("no neighbour but himself", x.mended(1, 0, 5, 0, 0), -1);
        due("another owner", x.mended(1, 3, 5, 0, 0), 1);
        due("no neighbour but himself", x.mended(1, 0, 5, 0, 0), -1);
        x.part(1, 0, 1, 11);
        twoWays();
        Told.law(x, "maybe first share on sale gift swap within 1;first side on sale gift swap within 1;maybe first water on sale within 1;");
        due("what is maybe is not in force", x.would(0, 0, 5, 1, SALE, 1, 1), 2 + 8);
    }

    /** Each of two lines stops one of two ways to what the owner keeps; only both of them stop both. */
    private static void twoWays() {
        FirstComer y = Told.parcels(3, "maybe first side on sale gift swap within 1;");
        y.beside(0, 2, 0);
        y.part(1, 1, 0, 12);
        due("this parcel", y.mended(0, 0, 5, 1, 0), 1);
        due("another one of the same owner", y.mended(1, 0, 5, 1, 0), -1);
        due("this parcel", y.mended(0, 0, 5, 1, 0), 1);
        FirstComer x = Told.parcels(1);
        x.part(0, 0, 8, 9);
        x.kin(0, 6, 1);
        Told.law(x, "first kin on sale gift swap within 1 when 2<n;maybe first kin on sale gift swap within 1 when n=1 and keeps=2;maybe first kin on sale gift swap within 1 when n=2 and keeps=1;");
        mendedIs(x, 1, 2, 3);
    }

    private static void marks() {
        promise = 30;
        FirstComer x = Told.parcels(2, "price paid;first side on sale within 1;");
        x.beside(0, 1, 0);
        x.days(5);
        x.pass(0, 0, 9, 6, SALE, 10, 8);
        no("mark 4", x.mark(4, false));
        no("mark -1", x.mark(-1, false));
        no("mark 4 back", x.mark(4, true));
        no("nothing is on it", x.mark(0, true));
        yes("laid", x.mark(0, false));
        x.days(5);
        x.hears(0, 1, 7);
        x.truly(0, 3);
        yes("laid", x.mark(1, false));
        yes("a parcel told since", x.parcel(4, 4));
        x.part(4, 4, 5, 3);
        x.pass(0, 0, 9, 1, SALE, 1, 1);
        x.waive(0, 1);
        yes("laid", x.mark(2, false));
        x.kin(0, 3, 1);
        x.honest(0, 0, 1, 1, SALE, 1);
        x.feed(0x20, 0, 0);
        yes("back to the second", x.mark(1, true));
        no("the third is gone", x.mark(2, true));
        due("one passing", x.count(2), 1);
        yes("the second is gone", lookThrows(x, 1, 0));
        due("NOW", x.count(1), 10);
        due("heard by then", x.till(0, 1), 8);
        due("proven by then", x.look(0, 6), 3);
        due("what he held", x.holds(0, 0), 6);
        due("told since stays as it is", x.holds(4, 4), 9);
        due("told since stays as it is", x.holds(4, 5), 3);
        due("late, not waived", x.claim(0, 1, 9), 2);
        yes("not waived by then", x.waive(0, 1));
        due("kin stay", x.stands(0, 0, 3), 1);
        due("honest ones stay", x.count(6), 1);
        due("the tape stays", x.count(7), 1);
        yes("back to the first", x.mark(0, true));
        no("the second is gone", x.mark(1, true));
        due("not heard by then", x.till(0, 1), -1);
        due("NOW", x.count(1), 5);
        due("not proven by then", x.look(0, 11), 8);
        due("claim", x.claim(0, 1, 8), 0);
        due("taken", x.count(3), 1);
        yes("back once more", x.mark(0, true));
        due("not taken by then", x.count(3), 0);
        due("the buyer holds them", x.holds(0, 9), 6);
        due("not taken", x.look(0, 10), -1);
        yes("laid behind", x.mark(3, false));
        yes("laid anew, behind the other", x.mark(0, false));
        yes("back", x.mark(3, true));
        no("laid anew behind it: gone", x.mark(0, true));
        yes("still there", x.mark(3, true));
        // A passing that takes the place of one that is gone begins anew.
        int p = x.pass(0, 9, 8, 6, SALE, 2, 1);
        yes("heard", x.hears(p, 1, x.count(1)));
        yes("waived", x.waive(p, 1));
        yes("proven", x.truly(p, 0));
        yes("back", x.mark(3, true));
        due("its number again", x.pass(0, 9, 8, 5, SALE, 3, 2), p);
        due("not heard", x.till(p, 1), -1);
        due("paid", x.look(p, 6), 2);
        due("not waived", x.claim(p, 1, 2), 0);
        yes("back", x.mark(3, true));
        due("its number again", x.pass(0, 9, 8, 6, GIFT, 0, 0), p);
        due("not taken", x.look(p, 10), -1);
        due("nobody may", x.may(p, 1), -1);
    }

    private static void counts() {
        promise = 31;
        FirstComer x = Told.parcels(3, "first side on sale within 1;free when n=7;maybe free when 1;price paid;");
        x.beside(0, 1, 0);
        x.days(3);
        x.pass(0, 0, 9, 2, SALE, 1, 1);
        x.pass(0, 0, 9, 2, SALE, 1, 1);
        x.claim(1, 1, 1);
        x.honest(0, 0, 1, 1, SALE, 1);
        x.feed(0x2020, 0x20, 0x2020);
        int[] want = {3, 3, 2, 1, 2, 1, 1, 5};
        for (int what = 0; what < want.length; what++) {
            due("count(" + what + ")", x.count(what), want[what]);
        }
        due("count(8)", x.count(8), -1);
        due("count(-1)", x.count(-1), -1);
    }
}
