import java.util.ArrayList;
import java.util.List;

/** Boundary cases of promises 10 and 11: the tape, its tokens, the lines of a law, its faults and what its conditions come to. */
public final class LawEdgesTest {
    private static final int SALE = Told.SALE;
    private static final String FACTS = "n price paid keeps estate has sale gift swap need holds owns degree day";
    private static final String PARTS = FACTS + " 7 not (";
    private static final String OTHER_WORDS = "kin share side water first free maybe parts on within when told heads shares and or";
    private static final String SIGNS = ") < = + - * ;";
    private static final String NONE_AT_ALL = "x firs firsts abcdefgh abcdefghi 12345 First N ? { ` / : , . _";
    private static final long BLANKS = 0x2020202020202020L;
    private static final Sheet sheet = new Sheet(LawEdgesTest.class);

    public static void main(String[] args) {
        sheet.run();
    }

    // Promise 10

    static void signsTenAndThirtyTwoTo126() {
        sheet.sentence(10, "others than 10 and 32 .. 126, and what is beyond 1,000, are left out");
        for (int sign = 0; sign < 256; sign++) {
            boolean taken = sign == 10 || sign >= 32 && sign <= 126;
            FirstComer x = new FirstComer();
            sheet.due("sign " + sign + " in a", x.feed((long) sign << 56, 0, 0), taken ? 1 : 0);
            sheet.due("sign " + sign + " in b", x.feed(0, (long) sign << 24, 0), taken ? 2 : 0);
            sheet.due("sign " + sign + " in c", x.feed(0, 0, sign), taken ? 3 : 0);
            sheet.due("signs on the tape", x.count(7), taken ? 3 : 0);
        }
    }

    static void upToTwentyFour() {
        sheet.sentence(10, "Up to 24 signs come behind the TAPE");
        FirstComer x = new FirstComer();
        sheet.due("none", x.feed(0, 0, 0), 0);
        sheet.due("24", x.feed(BLANKS, BLANKS, BLANKS), 24);
        sheet.due("none more", x.feed(0, 0, 0), 24);
        sheet.due("one more", x.feed(0, 0, 32), 25);
        sheet.due("none more", x.feed(-1, Long.MIN_VALUE, 0x7F80FF1F0B090D00L), 25);
        sheet.due("24 more", x.feed(0x7E7E7E7E7E7E7E7EL, 0x0A0A0A0A0A0A0A0AL, BLANKS), 49);
    }

    static void theHighestByteFirst() {
        sheet.sentence(10, "the bytes of a, b, c, of each the highest first");
        String text = "free when n*n=16 or day;";
        sheet.due("24 signs", text.length(), 24);
        FirstComer x = Told.parcels(1);
        sheet.due("law()", Told.law(x, text), 0);
        sheet.due("n is 4", free(x, 4), 1);
        sheet.due("n is 3", free(x, 3), 0);
        for (int at = 0; at < 24; at++) {
            long[] row = {BLANKS, BLANKS, BLANKS};
            row[at / 8] ^= (long) (' ' ^ '?') << 56 - at % 8 * 8;
            x.feed(row[0], row[1], row[2]);
            sheet.due("the place of the byte " + at, x.law(), 1 + 16 * at);
        }
    }

    static void howManyThereAre() {
        sheet.sentence(10, "how many there are");
        FirstComer x = new FirstComer();
        for (int signs = 1; signs <= 100; signs++) {
            sheet.due("one more", x.feed(0, signs % 2 == 0 ? 'a' : 0, signs % 2 == 0 ? 0 : 'a'), signs);
            sheet.due("signs on the tape", x.count(7), signs);
        }
        x.law();
        sheet.due("anew", x.feed(0, 0, 'a'), 1);
    }

    private static FirstComer fullTape() {
        FirstComer x = Told.parcels(2);
        Told.feed(x, Told.times(989, " ") + "free when 1");
        return x;
    }

    static void atMostThousandSigns() {
        sheet.sentence(10, "The TAPE has at most 1,000 signs, 10 and 32 .. 126");
        FirstComer x = new FirstComer();
        for (int i = 1; i <= 41; i++) {
            sheet.due("24 each", x.feed(BLANKS, BLANKS, BLANKS), 24 * i);
        }
        sheet.due("15 more", x.feed(BLANKS, BLANKS >>> 8, 0), 999);
        sheet.due("the last one of two", x.feed(0, 0, 0x2020), 1000);
        sheet.due("one more", x.feed(0, 0, 32), 1000);
        sheet.due("24 more", x.feed(BLANKS, BLANKS, BLANKS), 1000);
        sheet.due("signs on the tape", x.count(7), 1000);
        sheet.refused(LawEdgesTest::fullTape, "a ; behind 1,000", 1000, v -> v.feed(0, 0, ';'));
        sheet.refused(LawEdgesTest::fullTape, "24 of them behind 1,000", 1000, v -> v.feed(0x3B3B3B3B3B3B3B3BL, 0x3B3B3B3B3B3B3B3BL, 0x3B3B3B3B3B3B3B3BL));
        FirstComer y = fullTape();
        y.feed(0, 0, ';');
        sheet.due("the 1,001st is left out", y.law(), 1 + 16 * 1000);
        sheet.due("the 1,000th is not", Told.law(y, Told.times(988, " ") + "free when 1;;"), 0);
        sheet.due("the 999th is not", Told.law(y, Told.times(987, " ") + "free when 1;?"), 1 + 16 * 999);
        sheet.due("24 of which 16 are taken", Told.feed(y, Told.times(984, " ")), 984);
        sheet.due("24 of which 16 are taken", y.feed(BLANKS, BLANKS, -1), 1000);
    }

    // Promise 11: the tape and its tokens

    static void whatReadsTheTapeTakesIt() {
        sheet.sentence(11, "what reads it takes it: it is empty then.");
        FirstComer x = new FirstComer();
        sheet.due("a sound law", Told.law(x, "free when 1;"), 0);
        sheet.due("the tape", x.count(7), 0);
        sheet.due("a fault", Told.law(x, "free when 1;first"), 1 + 16 * 17);
        sheet.due("the tape", x.count(7), 0);
        sheet.due("the first place is 0 again", Told.law(x, "?"), 1);
        sheet.due("an empty tape", x.law(), 0);
        sheet.due("an empty law", x.count(4), 0);
    }

    static void tokensAreAsLongAsCanBe() {
        sheet.sentence(11, "TOKENS, each as long as can be");
        sheet.lawIs("firstkin on sale within 1;", 1, 0);
        sheet.lawIs("first kin on salegift within 1;", 1, 13);
        sheet.lawIs("first kin on sale withinn 1;", 1, 18);
        sheet.lawIs("free whenn;", 1, 5);
        sheet.lawIs("free when nn;", 1, 10);
        sheet.lawIs("free when notn;", 1, 10);
        sheet.lawIs("free when n andn;", 1, 12);
        sheet.lawIs("first kin on sale within 100 0;", 1, 29);
        sheet.lawIs("first kin on sale within 1000;", 4, 25);
        sheet.lawIs("free when 1 1;", 1, 12);
        sheet.lawIs("free when 11;", 0, 0);
        sheet.lawIs("price paidtold;", 1, 6);
    }

    static void blanksWhereOneLikes() {
        sheet.sentence(11, "blanks (10, 32) between where one likes");
        String[] tokens = {"maybe", "first", "side", "on", "gift", "sale", "within", "9", "when", "not", "(", "n", "<", "2", ")", "and", "price", "=", "paid", "+", "1", "-", "1", "*", "1", "or", "0", ";", "price", "paid", ";"};
        for (String blank : new String[] {" ", "\n", "  ", "\n\n", " \n \n "}) {
            String text = blank + String.join(blank, tokens) + blank;
            sheet.due("law() of <" + text + ">", Told.law(new FirstComer(), text), 0);
        }
        sheet.lawIs("first side on sale within 9when(n)and(1)or not(2);free when(3)<4;price paid;", 0, 0);
        sheet.lawIs("first side on sale within9when 1and 2;", 0, 0);
        sheet.lawIs(" \n", 0, 0);
        sheet.lawIs("fi rst", 1, 0);
        sheet.lawIs("fi\nrst", 1, 0);
        // Of the signs that are no blanks most are left out by feed().
        sheet.lawIs("free\twhen 1;", 1, 0);
        sheet.lawIs("free \rwhen\0 1;", 0, 0);
    }

    static void wordsOfEightAtMost() {
        sheet.sentence(11, "WORDS (letters a .. z, 8 at most)");
        sheet.lawIs("abcdefgh", 1, 0);
        sheet.lawIs("abcdefghi", 1, 0);
        sheet.lawIs("first kin on sale withinabc 1;", 1, 18);
        sheet.lawIs("first kin on sale withinabcd 1;", 1, 18);
        sheet.lawIs("free when degreeabc;", 1, 10);
        sheet.lawIs("free when 7abcdefghi;", 1, 11);
        sheet.lawIs("free when " + Told.times(16, "n") + ";", 1, 10);
        sheet.lawIs(Told.times(1000, "z"), 1, 0);
        sheet.lawIs("free when nz;", 1, 10);
        sheet.lawIs("free when na;", 1, 10);
        sheet.lawIs("free when zn;", 1, 10);
        sheet.lawIs("free when an;", 1, 10);
        sheet.lawIs("free when @n;", 1, 10);
        sheet.lawIs("free when `n;", 1, 10);
        sheet.lawIs("free when {n;", 1, 10);
        sheet.lawIs("free when Need;", 1, 10);
        sheet.lawIs("free when neeD;", 1, 10);
    }

    static void numbersOfOneToFourDigits() {
        sheet.sentence(11, "NUMBERS (1 to 4 digits; a letter may stand right behind)");
        for (String number : new String[] {"0", "9", "10", "99", "100", "999", "1000", "9999", "0000", "0001"}) {
            sheet.lawIs("free when " + number + ";", 0, 0);
            sheet.lawIs("free when " + number + "and " + number + "or " + number + ";", 0, 0);
            sheet.lawIs("free when " + number + "n;", 1, 10 + number.length());
        }
        for (String number : new String[] {"00000", "10000", "99999", "12345678", Told.times(900, "1")}) {
            sheet.lawIs("free when " + number + ";", 1, 10);
            sheet.lawIs("free when " + number + "and 1;", 1, 10);
            sheet.lawIs("first kin on sale within " + number + ";", 1, 25);
        }
        sheet.due("9999", so("9999=9998+1"), 1);
        sheet.due("0000", so("0000"), 0);
        sheet.due("0010 is ten", so("0010=10"), 1);
    }

    static void theSignsAreEight() {
        sheet.sentence(11, "the signs ( ) < = + - * ;");
        for (char sign = 33; sign < 127; sign++) {
            boolean ofTwo = "<=+-*".indexOf(sign) >= 0;
            boolean letter = sign >= 'a' && sign <= 'z' || sign >= '0' && sign <= '9';
            if (!letter) {
                int place = sign == ';' ? 12 : 11;
                sheet.lawIs("free when n" + sign + "n;", ofTwo ? 0 : 1, ofTwo ? 0 : place);
                sheet.lawIs("free when " + sign + "n);", sign == '(' ? 0 : 1, sign == '(' ? 0 : 10);
            }
        }
    }

    static void allElseIsNone() {
        sheet.sentence(11, "All else (a longer WORD or NUMBER, too, at its first sign) is none.");
        sheet.lawIs("free when 0 + abcdefghijklmnop;", 1, 14);
        sheet.lawIs("free when 0 + 1234567890;", 1, 14);
        sheet.lawIs("first kin on sale within 00009;", 1, 25);
        sheet.lawIs("free when n << 1;", 1, 13);
        sheet.lawIs("free when n == 1;", 1, 13);
        sheet.lawIs("free when n > 1;", 1, 12);
        sheet.lawIs("free when n / 1;", 1, 12);
        sheet.lawIs("free when \"n\";", 1, 10);
        sheet.lawIs("~", 1, 0);
    }

    // Promise 11: the lines

    static void theTapeIsReadAsALaw() {
        sheet.sentence(11, "The TAPE is read as a LAW");
        FirstComer x = new FirstComer();
        sheet.due("nothing on it", x.law(), 0);
        Told.feed(x, "free when");
        sheet.due("in two rows", Told.feed(x, " 1;"), 12);
        sheet.due("read", x.law(), 0);
        sheet.due("in force", x.count(4), 1);
        sheet.due("nothing on it", x.law(), 0);
        sheet.due("in force", x.count(4), 0);
    }

    static void theLinesThereAre() {
        sheet.sentence(11, "first WHO on FORM .. within N ; first WHO on FORM .. within N when E ; free when E ; price paid ; price told ; parts heads ; parts shares ;");
        FirstComer x = new FirstComer();
        String[] all = {"first kin on sale within 1 ;", "first kin on sale within 1 when 1 ;", "free when 1 ;", "price paid ;", "price told ;", "parts heads ;", "parts shares ;"};
        for (int i = 0; i < all.length; i++) {
            sheet.due(all[i], Told.law(x, all[i]), 0);
            sheet.due("in force", x.count(4), i < 3 ? 1 : 0);
            String open = all[i].substring(0, all[i].length() - 2);
            sheet.lawIs(open, 1, open.length());
            sheet.lawIs(all[i] + ";", 1, all[i].length());
        }
    }

    static void whoComesFirst() {
        sheet.sentence(11, "WHO: kin, share, side, water.");
        String[] whos = {"kin", "share", "side", "water"};
        for (int i = 0; i < 4; i++) {
            FirstComer x = Told.parcels(4, "first " + whos[i] + " on sale within 1;");
            x.kin(0, 10, 3);
            x.part(0, 0, 11, 1);
            x.beside(0, 2, 0);
            x.water(0, 3);
            int[] comes = {1 << 10, 1 << 11, 1 << 2, 1 << 3};
            sheet.due(whos[i], x.would(0, 0, 9, 1, SALE, 0, 0), comes[i]);
        }
        for (String none : new String[] {"n", "owns", "day", "first", "free", "heads", "waters", "kins", "sale"}) {
            sheet.lawIs("first " + none + " on sale within 1;", 1, 6);
        }
    }

    static void theFactsThereAre() {
        sheet.sentence(11, "Facts: n, price, paid, keeps, estate, has, sale, gift, swap, need, holds, owns, degree, day.");
        for (String fact : tokens(FACTS)) {
            sheet.lawIs("free when " + fact + ";", 0, 0);
            sheet.lawIs("first kin on sale within 1 when 1 or " + fact + ";", 0, 0);
        }
        for (String word : tokens(OTHER_WORDS + " x holdss own")) {
            sheet.lawIs("free when " + word + ";", 1, 10);
        }
    }

    static void anyNumberOfLines() {
        sheet.sentence(11, "LAW: any number of");
        FirstComer x = new FirstComer();
        sheet.due("none", x.law(), 0);
        sheet.due("in force", x.count(4), 0);
        sheet.due("price and parts alone", Told.law(x, "price told;parts heads;"), 0);
        sheet.due("in force", x.count(4), 0);
        String all = "parts shares;" + Told.times(12, "free when 0;") + "price paid;" + Told.times(6, "maybe free when 0;");
        sheet.due("20 in all", Told.law(x, all), 0);
        sheet.due("in force", x.count(4), 12);
        sheet.due("with maybe", x.count(5), 6);
    }

    static void oneOrMoreForms() {
        sheet.sentence(11, "FORM: sale, gift, swap; one or more, each once.");
        sheet.lawIs("first kin on within 1;", 1, 13);
        String[] forms = {"sale", "gift", "swap"};
        for (int a = 0; a < 3; a++) {
            sheet.due("one", formsOf(forms[a]), 1 << a);
            for (int b = 0; b < 3; b++) {
                String two = forms[a] + " " + forms[b];
                if (a == b) {
                    sheet.lawIs("first kin on " + two + " within 1;", 3, 18);
                } else {
                    String third = forms[3 - a - b];
                    sheet.due(two, formsOf(two), 1 << a | 1 << b);
                    sheet.due(two + " " + third, formsOf(two + " " + third), 7);
                    sheet.lawIs("first kin on " + two + " " + forms[a] + " within 1;", 3, 23);
                    sheet.lawIs("first kin on " + two + " " + forms[b] + " within 1;", 3, 23);
                    for (String fourth : forms) {
                        sheet.lawIs("first kin on " + two + " " + third + " " + fourth + " within 1;", 3, 28);
                    }
                }
            }
        }
    }

    /** The forms, as bits, at which kin may come first by a line on these. */
    private static long formsOf(String forms) {
        FirstComer x = Told.parcels(1, "first kin on " + forms + " within 1;");
        x.kin(0, 1, 1);
        int bits = 0;
        for (int form = 0; form < 3; form++) {
            bits |= x.would(0, 0, 9, 1, form, 0, 0) == 2 ? 1 << form : 0;
        }
        return bits;
    }

    static void withinZeroTo999() {
        sheet.sentence(11, "N 0 to 999.");
        for (int n : new int[] {0, 1, 9, 10, 99, 100, 998, 999}) {
            FirstComer x = Told.parcels(1, "first kin on sale within " + n + ";");
            x.kin(0, 1, 1);
            x.pass(0, 0, 9, 1, SALE, 0, 0);
            x.hears(0, 1, 0);
            sheet.due("within " + n, x.till(0, 1), n);
        }
        sheet.lawIs("first kin on sale within 0999;", 0, 0);
        sheet.lawIs("first kin on sale within 0000;", 0, 0);
        for (int n : new int[] {1000, 1001, 5000, 9999}) {
            sheet.lawIs("first kin on sale within " + n + ";", 4, 25);
            sheet.lawIs("maybe first kin on sale within " + n + " when 1;", 4, 31);
        }
        sheet.lawIs("first kin on sale within 10000;", 1, 25);
        sheet.lawIs("first kin on sale within -1;", 1, 25);
    }

    static void priceAndPartsOnceEach() {
        sheet.sentence(11, "price, parts once each.");
        sheet.lawIs("price paid;parts heads;", 0, 0);
        sheet.lawIs("parts shares;price told;", 0, 0);
        for (String first : new String[] {"paid", "told"}) {
            for (String second : new String[] {"paid", "told"}) {
                sheet.lawIs("price " + first + ";price " + second + ";", 3, 11);
            }
        }
        for (String second : new String[] {"heads", "shares"}) {
            sheet.lawIs("parts heads;parts " + second + ";", 3, 12);
            sheet.lawIs("parts shares;parts " + second + ";", 3, 13);
            sheet.lawIs("parts shares;price told;parts " + second + ";", 3, 24);
        }
        FirstComer x = new FirstComer();
        sheet.due("once in a law", Told.law(x, "price paid;parts shares;"), 0);
        sheet.due("once in the next one, too", Told.law(x, "price paid;parts shares;"), 0);
        sheet.due("told twice", Told.law(x, "price paid;price paid;"), 3 + 16 * 11);
        sheet.due("once in the one behind a fault", Told.law(x, "price paid;parts shares;"), 0);
    }

    static void twelveLinesWithoutMaybe() {
        sheet.sentence(11, "At most 12 LINES with first or free that have no maybe, at most 6 that have.");
        FirstComer x = Told.parcels(2);
        x.beside(0, 1, 0);
        String idle = "first water on sale within 1;";
        for (int lines = 0; lines < 12; lines++) {
            sheet.due(lines + 1 + " lines", Told.law(x, Told.times(lines, idle) + "first side on sale within 1;"), 0);
            sheet.due("in force", x.count(4), lines + 1);
            sheet.due("the last one counts", x.would(0, 0, 9, 1, SALE, 0, 0), 2);
        }
        sheet.due("13 lines", Told.law(x, Told.times(12, "free when 0;") + "first side on sale within 1;"), 5 + 16 * 144);
        sheet.due("13 lines", Told.law(x, Told.times(11, "free when 0;") + "first side on sale within 1;free when 0;"), 5 + 16 * (132 + 28));
        sheet.due("the one ahead stays", x.count(4), 12);
        sheet.due("12 and 6", Told.law(x, Told.times(6, "maybe free when 0;") + Told.times(12, "free when 1;")), 0);
        sheet.due("in force", x.count(4), 12);
        sheet.due("with maybe", x.count(5), 6);
    }

    static void sixLinesWithMaybe() {
        sheet.sentence(11, "at most 6 that have");
        FirstComer x = Told.parcels(2);
        x.beside(0, 1, 0);
        String idle = "maybe first water on sale within 1;";
        for (int lines = 0; lines < 6; lines++) {
            sheet.due(lines + 1 + " lines", Told.law(x, Told.times(lines, idle) + "maybe first side on sale gift swap within 1;"), 0);
            sheet.due("with maybe", x.count(5), lines + 1);
            sheet.due("the last one counts", x.mended(0, 0, 9, 0, 1), 1 << lines);
        }
        sheet.due("7 lines", Told.law(x, Told.times(6, "maybe free when 0;") + "maybe free when 1;"), 5 + 16 * 108);
        sheet.due("the one ahead stays", x.count(5), 6);
        sheet.due("the one ahead stays", x.mended(0, 0, 9, 0, 1), 32);
        sheet.due("7 lines and 12", Told.law(x, Told.times(12, "free when 0;") + Told.times(7, "maybe free when 0;")), 5 + 16 * (144 + 108));
    }

    static void whatMayHaveMaybe() {
        sheet.sentence(11, "Those with first, with free may have maybe ahead of them.");
        sheet.lawIs("maybe first kin on sale within 1;", 0, 0);
        sheet.lawIs("maybe free when 1;", 0, 0);
        sheet.lawIs("maybe price told;", 1, 6);
        sheet.lawIs("maybe parts heads;", 1, 6);
        sheet.lawIs("maybe maybe free when 1;", 1, 6);
        sheet.lawIs("maybe ;", 1, 6);
        sheet.lawIs("maybe", 1, 5);
        sheet.lawIs("free maybe when 1;", 1, 5);
        sheet.lawIs("price paid;maybe price paid;", 1, 17);
    }

    static void noPartWithinFive() {
        sheet.sentence(11, "no PART lies within 5 of not and ( )");
        for (int mix = 0; mix < 32; mix++) {
            String open = "";
            String shut = "";
            for (int i = 0; i < 5; i++) {
                String four = "free when " + open;
                for (String part : new String[] {"n", "7", "9999"}) {
                    sheet.lawIs(four + part + shut + ";", 0, 0);
                }
                boolean not = (mix >> i & 1) != 0;
                open += not ? "not " : "(";
                shut += not ? "" : ")";
            }
            String five = "free when " + open;
            for (String part : new String[] {"n", "7", "9999", "not 1", "(1)", "not", "(", "day*2"}) {
                sheet.lawIs(five + part + shut + ";", 5, five.length());
                sheet.lawIs("first kin on sale within 1when" + five.substring(9) + part + shut + ";", 5, five.length() + 21);
            }
        }
    }

    static void behindTheDeepestPart() {
        sheet.sentence(11, "not, or a PART, within 5 others");
        sheet.lawIs("free when ((((1))))+((((2))))*not(not(n));", 0, 0);
        sheet.lawIs("free when ((((1+n*day<has and gift))));", 0, 0);
        sheet.lawIs("free when ((((1))))+(((((2)))));", 5, 25);
        sheet.lawIs("free when ((((1+n*(day)))));", 5, 19);
        sheet.lawIs("free when ((((1 and not n))));", 5, 24);
        sheet.lawIs("free when not not not not 1 + not not not not 1;", 0, 0);
        sheet.lawIs("free when not not not not 1 + not not not not not 1;", 5, 50);
        sheet.lawIs("free when ((((1;", 1, 15);
        sheet.lawIs("free when " + Told.times(500, "("), 5, 15);
        sheet.lawIs("free when " + Told.times(200, "not "), 5, 30);
    }

    // Promise 11: the faults

    private static List<String> tokens(String row) {
        List<String> all = new ArrayList<>();
        for (String token : row.split(" ")) {
            if (!token.isEmpty()) {
                all.add(token);
            }
        }
        return all;
    }

    /**
     * Behind this text no token can stand but these, and those of the second row are told again there.
     * The text with one that can stand lacks something at its end, if it does not end with a ; there.
     */
    private static void onlyThese(String text, String row, String again) {
        List<String> can = tokens(row);
        for (String token : tokens(PARTS + " " + OTHER_WORDS + " " + SIGNS + " " + NONE_AT_ALL)) {
            String more = text + " " + token;
            if (token.equals(";") && can.contains(token)) {
                sheet.lawIs(more, 0, 0);
            } else if (can.contains(token)) {
                sheet.lawIs(more, 1, more.length());
            } else {
                int kind = tokens(again).contains(token) ? 3 : 1;
                sheet.lawIs(more, kind, text.length() + 1);
                sheet.lawIs(more + " ?", kind, text.length() + 1);
            }
        }
    }

    private static void onlyThese(String text, String row) {
        onlyThese(text, row, "");
    }

    static void whatCanStandInALine() {
        sheet.sentence(11, "1 it is none, or can't stand there");
        onlyThese("", "first free maybe price parts");
        onlyThese("price told;", "first free maybe parts", "price");
        onlyThese("parts heads;", "first free maybe price", "parts");
        onlyThese("free when 1;", "first free maybe price parts");
        onlyThese("maybe", "first free");
        onlyThese("first", "kin share side water");
        for (String who : tokens("kin share side water")) {
            onlyThese("first " + who, "on");
        }
        onlyThese("first kin on", "sale gift swap");
        onlyThese("first kin on sale", "gift swap within", "sale");
        onlyThese("first kin on gift swap", "sale within", "gift swap");
        onlyThese("first kin on gift swap sale", "within", "gift swap sale");
        onlyThese("first kin on sale within", "7");
        onlyThese("first kin on sale within 7", "when ;");
        onlyThese("free", "when");
        onlyThese("price", "paid told");
        onlyThese("price paid", ";");
        onlyThese("price told", ";");
        onlyThese("parts", "heads shares");
        onlyThese("parts heads", ";");
        onlyThese("parts shares", ";");
    }

    static void whatCanStandInACondition() {
        sheet.sentence(11, "E: TEST { and TEST or or TEST }, from the left; TEST: SUM, or SUM < SUM, or SUM = SUM; SUM: PRODUCT { + or - PRODUCT }; PRODUCT: PART { * PART }; PART: a NUMBER, a fact, not PART, ( E )");
        for (String ahead : tokens("free|when first|kin|on|sale|within|7|when free|when|( free|when|not free|when|n|+ free|when|n|- free|when|n|* free|when|n|< free|when|n|= free|when|n|and free|when|n|or free|when|n|<|n|or")) {
            onlyThese(ahead.replace('|', ' '), PARTS);
        }
        for (String ahead : tokens("free|when|n free|when|7 free|when|not|n free|when|(n) free|when|(n<n) free|when|n+n free|when|n*n free|when|n<n|and|n free|when|n=n|or|n")) {
            onlyThese(ahead.replace('|', ' '), "and or < = + - * ;");
        }
        onlyThese("free when n<n", "and or + - * ;");
        onlyThese("free when n=n", "and or + - * ;");
        onlyThese("free when n+1<n-1*n", "and or + - * ;");
        onlyThese("free when (n", "and or < = + - * )");
        onlyThese("free when (n<n", "and or + - * )");
        onlyThese("free when ((n)", "and or < = + - * )");
        onlyThese("maybe first kin on sale within 7 when n=(n=n)", "and or + - * ;");
    }

    static void kindAndPlace() {
        sheet.sentence(11, "FAULTS, kind + 16 * the place (from 0) of a token");
        for (int place : new int[] {0, 1, 15, 16, 17, 255, 256, 994, 999}) {
            sheet.due("1 at " + place, Told.law(new FirstComer(), Told.times(place, " ") + "?"), 1 + 16 * place);
        }
        for (int place : new int[] {25, 100, 900}) {
            sheet.due("4 at " + place, Told.law(new FirstComer(), Told.times(place - 25, " ") + "first kin on sale within 1000;"), 4 + 16 * place);
        }
        sheet.due("3 at 995", Told.law(new FirstComer(), "price paid;" + Told.times(984, " ") + "price"), 3 + 16 * 995);
        sheet.due("5 at 999", Told.law(new FirstComer(), "free when(((((" + Told.times(985, " ") + "1"), 5 + 16 * 999);
    }

    static void theEndIsOneAtTheTextsLength() {
        sheet.sentence(11, "the end being one at the text's length");
        String text = "maybe first kin on sale gift within 12 when not ( n < 3 ) and price = 2 * paid + 1 - has or 0 ; free when 1 ; price paid ; parts heads ;";
        for (int at = 0; at <= text.length(); at++) {
            boolean between = at == text.length() || text.charAt(at) == ' ';
            if (between) {
                String cut = text.substring(0, at);
                boolean whole = cut.endsWith(";");
                sheet.lawIs(cut, whole ? 0 : 1, whole ? 0 : at);
                sheet.lawIs(cut + " \n ", whole ? 0 : 1, whole ? 0 : at + 3);
            }
        }
        sheet.lawIs("", 0, 0);
        String full = Told.times(994, " ") + "first ";
        sheet.due("at the end of a full tape", Told.law(new FirstComer(), full), 1 + 16 * 1000);
    }

    static void theFirstTokenThatIsWrong() {
        sheet.sentence(11, "of the first token from the left that is wrong the least");
        sheet.lawIs("first kin on sale within 1000 ? price price;", 4, 25);
        sheet.lawIs("first kin on sale sale within 1000;", 3, 18);
        sheet.lawIs("price paid;price ?;", 3, 11);
        sheet.lawIs("price paid;? price", 1, 11);
        sheet.lawIs("free when (((((1)))));free when ?;", 5, 15);
        sheet.lawIs("free when ?;free when (((((1)))));", 1, 10);
        sheet.lawIs(Told.times(12, "free when 1;") + "free ?", 5, 144);
        sheet.lawIs(Told.times(6, "maybe free when 1;") + "maybe ?", 5, 108);
        // What is wrong in two ways is wrong in the lesser one.
        sheet.lawIs("first kin on 1000;", 1, 13);
        sheet.lawIs("first kin on sale within 10000;", 1, 25);
        sheet.lawIs("free when (((((;", 1, 15);
        sheet.lawIs("free when (((((first", 1, 15);
        sheet.lawIs("free when (((((12345", 1, 15);
        sheet.lawIs("free when (((((abcdefghi", 1, 15);
        sheet.lawIs("free when (((((", 1, 15);
        sheet.lawIs("free when not not not not not ;", 1, 30);
        sheet.lawIs(Told.times(12, "free when 1;") + "firsts", 1, 144);
        sheet.lawIs("price paid;maybe price", 1, 17);
    }

    static void aFormToldInThisLine() {
        sheet.sentence(11, "3 a FORM told in this LINE, the word price or parts a second time");
        sheet.lawIs("first kin on sale within 1;first kin on sale within 1;maybe first kin on sale within 1;", 0, 0);
        sheet.lawIs("first kin on sale sale", 3, 18);
        sheet.lawIs("first kin on sale within 1;first kin on gift gift", 3, 45);
        sheet.lawIs("first kin on sale within 1 when sale and sale;", 0, 0);
        sheet.lawIs("price paid;free when price<price+price;", 0, 0);
        sheet.lawIs("free when price;price paid;free when price;", 0, 0);
        sheet.lawIs("parts heads;free when parts;", 1, 22);
    }

    static void aNumberThatIsNotAsTold() {
        sheet.sentence(11, "4 a NUMBER that is not as told");
        sheet.lawIs("first kin on sale within 999;", 0, 0);
        sheet.lawIs("first kin on sale within 1000", 4, 25);
        sheet.lawIs("first kin on sale within 1000when", 4, 25);
        sheet.lawIs("first kin on sale within 999 when 1000;", 0, 0);
        sheet.lawIs("free when 9999;", 0, 0);
    }

    static void oneTooMany() {
        sheet.sentence(11, "5 one too many: the word first or free of a 13th LINE without maybe; the word maybe of a seventh");
        String firm = Told.times(12, "free when 1;");
        String maybes = Told.times(6, "maybe free when 1;");
        for (String word : new String[] {"first", "free", "first kin on sale within 1;", "free when 1;", "free free", "first1"}) {
            sheet.lawIs(firm + word, 5, 144);
            sheet.lawIs(firm + "  \n" + word, 5, 147);
            sheet.lawIs(maybes + firm + word, 5, 252);
            sheet.lawIs(firm + "maybe " + word, word.endsWith(";") ? 0 : 1, word.endsWith(";") ? 0 : faultBehindMaybe(word));
        }
        for (String word : new String[] {"maybe", "maybe first", "maybe free when 1;", "maybe maybe", "maybe price", "maybe;", "maybe7"}) {
            sheet.lawIs(maybes + word, 5, 108);
            sheet.lawIs(firm + maybes + word, 5, 252);
        }
        sheet.lawIs(firm + "price paid;parts heads;" + maybes, 0, 0);
        sheet.lawIs(firm + maybes + "price paid;parts heads;", 0, 0);
    }

    private static int faultBehindMaybe(String word) {
        return 150 + (word.equals("free free") ? 5 : word.equals("first1") ? 5 : word.length());
    }

    static void theOneAheadStays() {
        sheet.sentence(11, "0, or its FAULT (the one ahead stays then)");
        for (String text : new String[] {"?", "free when 1;?", "parts heads;price told;price told;", "first kin on sale within 1000;", Told.times(13, "free when 1;"), Told.times(7, "maybe free when 1;"), "free when (((((1)))));"}) {
            FirstComer x = Told.parcels(2, "price paid;parts shares;first side on sale within 3 when 1<n;maybe first side on sale gift swap within 1;");
            x.beside(0, 1, 0);
            x.part(1, 1, 2, 3);
            int fault = Told.law(x, text);
            sheet.yes("a fault of <" + text + ">", fault > 0);
            sheet.due("in force", x.count(4), 1);
            sheet.due("with maybe", x.count(5), 1);
            sheet.due("of two twelfths", x.would(0, 0, 9, 2, SALE, 9, 8), 6);
            sheet.due("of one twelfth", x.would(0, 0, 9, 1, SALE, 9, 8), 0);
            sheet.due("mended", x.mended(0, 0, 9, 1, 1), 1);
            x.pass(0, 0, 9, 8, SALE, 9, 8);
            sheet.due("price paid", x.look(0, 11), 8);
            sheet.due("parts shares", x.parted(0, 1), 6);
            sheet.due("parts shares", x.parted(0, 2), 2);
        }
    }

    static void withoutPriceAndParts() {
        sheet.sentence(11, "Without a FAULT it is the LAW from then on (at first an empty one). Without price it is told, without parts heads.");
        FirstComer x = Told.parcels(2, "price paid;parts shares;");
        sheet.due("another one", Told.law(x, "first side on sale within 3;"), 0);
        x.beside(0, 1, 0);
        x.part(1, 1, 2, 3);
        x.pass(0, 0, 9, 8, SALE, 9, 8);
        sheet.due("price told", x.look(0, 11), 9);
        sheet.due("parts heads", x.parted(0, 1), 4);
        sheet.due("an empty one", x.law(), 0);
        sheet.due("nobody may", x.would(0, 9, 8, 1, SALE, 9, 8), 0);
        sheet.due("from then on", x.may(0, 1), 0);
        x.pass(0, 9, 8, 1, SALE, 9, 8);
        sheet.due("price told", x.look(1, 11), 9);
        Told.law(x, "price paid;parts shares;");
        Told.law(x, "price paid;parts shares;");
        Told.law(x, "first side on sale within 3;");
        x.pass(0, 9, 8, 5, SALE, 9, 8);
        sheet.due("price told", x.look(2, 11), 9);
        sheet.due("parts heads", x.parted(2, 1), 3);
        sheet.due("parts heads", x.parted(2, 2), 2);
    }

    static void nothingOfTheOneAhead() {
        sheet.sentence(11, "Without a FAULT it is the LAW from then on");
        FirstComer x = Told.parcels(2);
        x.beside(0, 1, 0);
        for (int i = 0; i < 3; i++) {
            sheet.due("a long one", Told.law(x, "free when not 0*not 0*not 0;" + Told.times(5, "first side on sale gift swap within 1;") + Told.times(6, "maybe first side on sale gift swap within 1;")), 0);
            sheet.due("is free", free(x, 3), 1);
        }
        for (int i = 1; i <= 6; i++) {
            sheet.due("a longer one", Told.law(x, "free when 0" + Told.times(195, "*n") + "+(n=" + i + ");"), 0);
            sheet.due("is free", free(x, 3), i == 3 ? 1 : 0);
        }
        for (int i = 0; i < 3; i++) {
            sheet.due("a short one", Told.law(x, "free when 5;"), 0);
            sheet.due("is free", free(x, 3), 1);
            sheet.due("nobody may", x.would(0, 0, 9, 1, SALE, 0, 0), 0);
        }
        for (int i = 0; i < 3; i++) {
            sheet.due("an empty one", x.law(), 0);
            sheet.due("is not free", free(x, 3), 0);
            sheet.due("nobody may", x.would(0, 0, 9, 1, SALE, 0, 0), 0);
            sheet.due("a row", x.sly(0, 0, 9, 1), 1);
            sheet.due("no lines", x.count(4) + x.count(5), 0);
            sheet.due("no set does", x.mended(0, 0, 9, 1, 0), -1);
        }
    }

    // Promise 11: what conditions come to

    private static long free(FirstComer x, int n) {
        int passing = x.pass(0, 0, 9, n, SALE, 20, 7);
        long free = x.look(passing, 8);
        x.part(0, 9, 0, n);
        return free;
    }

    /** Whether a condition is so at a sale of 3 twelfths of 12 at 20, paid 7. */
    private static long so(String condition) {
        return free(Told.parcels(1, "free when " + condition + ";"), 3);
    }

    private static void comesTo(String expression, int want) {
        String is = want < 0 ? "(" + expression + ")+" + -want + "=0" : "(" + expression + ")=" + want;
        sheet.due(is, so(is), 1);
        sheet.due(expression, so(expression), want == 0 ? 0 : 1);
    }

    static void oneOrZeroComesOfThem() {
        sheet.sentence(11, "Of not, and, or, < and = comes 1 or 0");
        comesTo("not 0", 1);
        comesTo("not 1", 0);
        comesTo("not 9999", 0);
        comesTo("not(0-1)", 0);
        comesTo("7 and 9", 1);
        comesTo("7 and 0", 0);
        comesTo("0 and 7", 0);
        comesTo("0 and 0", 0);
        comesTo("7 or 0", 1);
        comesTo("0 or 7", 1);
        comesTo("7 or 7", 1);
        comesTo("0 or 0", 0);
        comesTo("2<3", 1);
        comesTo("3<3", 0);
        comesTo("4<3", 0);
        comesTo("3=3", 1);
        comesTo("3=4", 0);
        comesTo("0=0", 1);
        comesTo("(0-1)<0", 1);
        comesTo("0<(0-1)", 0);
        comesTo("not not 7", 1);
    }

    static void whatIsNotZeroIsSo() {
        sheet.sentence(11, "what is not 0 is so");
        sheet.due("0", so("0"), 0);
        sheet.due("1", so("1"), 1);
        sheet.due("2", so("2"), 1);
        sheet.due("9999", so("9999"), 1);
        sheet.due("0-1", so("0-1"), 1);
        sheet.due("1-1", so("1-1"), 0);
        comesTo("(0-1) and (0-2)", 1);
        comesTo("0 or 0-2", 1);
    }

    static void intsWrap() {
        sheet.sentence(11, "ints wrap");
        String most = "8192*4096*64-1";
        String least = "8192*4096*64";
        comesTo(least + "<0", 1);
        comesTo("0<" + most, 1);
        comesTo(most + "+1<0", 1);
        comesTo("0<" + least + "-1", 1);
        comesTo(most + "+1=" + least, 1);
        comesTo(least + "<" + most, 1);
        comesTo(most + "<" + least, 0);
        comesTo("8192*8*8192*8", 0);
        comesTo("9999*9999*9999<0", 9999 * 9999 * 9999 < 0 ? 1 : 0);
        comesTo("9999*9999*22<0", 9999 * 9999 * 22 < 0 ? 1 : 0);
        comesTo("9999*9999*21<0", 0);
        comesTo("0-" + least + "=" + least, 1);
    }

    static void fromTheLeft() {
        sheet.sentence(11, "from the left");
        comesTo("1 or 1 and 0", 0);
        comesTo("0 and 0 or 1", 1);
        comesTo("0 and 1 or 1 and 0", 0);
        comesTo("9-3-2", 4);
        comesTo("9-3+2", 8);
        comesTo("2+3*4", 14);
        comesTo("2*3+4", 10);
        comesTo("1-2*3", -5);
        comesTo("not 0*3", 3);
        comesTo("not 0+1", 2);
        comesTo("not 3=0", 1);
        comesTo("1+1<1+2 and 2*2=4", 1);
        comesTo("1 and 2=2", 1);
        comesTo("1=1+0 or 0", 1);
    }

    static void theLongestCondition() {
        sheet.sentence(11, "SUM: PRODUCT { + or - PRODUCT }");
        comesTo("0" + Told.times(450, "+1"), 450);
        comesTo("1" + Told.times(450, "*1"), 1);
        comesTo("0" + Told.times(80, " or 0 and 1") + " or 1", 1);
        comesTo("1 and 0<1+1*(1 and 0<1+1*(1 and 0<1+1*(1 and 0<1+1*1)))", 1);
    }
}
