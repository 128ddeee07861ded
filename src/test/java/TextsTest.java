/** What the document says of texts, a sentence each: what can stand, and where the fault is. */
public final class TextsTest {
    private static final int NONE = MonthPage.NONE;
    private static final Due due = new Due();

    public static void main(String[] args) {
        eachEntryEndsWithASemicolon();
        perhapsALastDay();
        perhapsATime();
        perhapsARank();
        allPartsInTheirOrder();
        daysHave1To3Digits();
        theTextEndsTooEarly();
        theFirstByteThatCannotStand();
        aLastDayThatIsLess();
        aLastDayThatIsLessAtTheTextsEnd();
        aDigitTooManyIsTheFaultItself();
        anHourAbove23();
        aMinuteAbove59();
        theFirstFaultOfSeveral();
        a25thEntry();
        eachByteAlone();
        eachByteBehindAnEntry();
        due.end();
    }

    private static int load(String text) {
        MonthPage x = new MonthPage();
        Pages.write(x, text);
        return x.load();
    }

    private static void fault(String text, int fault) {
        due.is("load of " + text, load(text), -10 - fault);
    }

    /** The text tells this one entry. */
    private static void tells(String text, int first, int last, int time, int rank) {
        MonthPage x = new MonthPage();
        Pages.write(x, text);
        due.is("load of " + text, x.load(), 1);
        due.is(text + ": first day", x.entry(0, 0), first);
        due.is(text + ": last day", x.entry(0, 1), last);
        due.is(text + ": time", x.entry(0, 2), time);
        due.is(text + ": rank", x.entry(0, 3), rank);
    }

    private static void eachEntryEndsWithASemicolon() {
        due.is("the empty text", load(""), 0);
        due.is("one", load("5;"), 1);
        due.is("two", load("5;6;"), 2);
        fault(";", 0);
        fault("5;;", 2);
        fault("5", 1);
        fault("5;6", 3);
        fault("5,6;", 1);
    }

    private static void perhapsALastDay() {
        tells("5;", 5, 5, NONE, 0);
        tells("5-6;", 5, 6, NONE, 0);
        tells("5-5;", 5, 5, NONE, 0);
        tells("0-999;", 0, 999, NONE, 0);
        tells("999-999;", 999, 999, NONE, 0);
        tells("9-10;", 9, 10, NONE, 0);
        tells("99-100;", 99, 100, NONE, 0);
        fault("5-;", 2);
        fault("-5;", 0);
        fault("5--6;", 2);
        fault("5-6-7;", 3);
    }

    private static void perhapsATime() {
        tells("5@00:00;", 5, 5, 0, 0);
        tells("5@00:59;", 5, 5, 59, 0);
        tells("5@01:00;", 5, 5, 60, 0);
        tells("5@19:09;", 5, 5, 1149, 0);
        tells("5@20:50;", 5, 5, 1250, 0);
        tells("5@23:59;", 5, 5, 1439, 0);
        fault("5@;", 2);
        fault("5@1:00;", 3);
        fault("5@100:00;", 4);
        fault("5@10:0;", 6);
        fault("5@10:000;", 7);
        fault("5@10;", 4);
        fault("5@:10;", 2);
        fault("5@10:;", 5);
        fault("5@10@10;", 4);
        fault("5@10:00@10:00;", 7);
        fault("@10:00;", 0);
    }

    private static void perhapsARank() {
        tells("5!0;", 5, 5, NONE, 0);
        tells("5!1;", 5, 5, NONE, 1);
        tells("5!9;", 5, 5, NONE, 9);
        fault("5!;", 2);
        fault("5!!;", 2);
        fault("5!10;", 3);
        fault("5!00;", 3);
        fault("5!1!1;", 3);
        fault("!1;", 0);
    }

    private static void allPartsInTheirOrder() {
        tells("5-6@07:08!9;", 5, 6, 428, 9);
        tells("5-6@07:08;", 5, 6, 428, 0);
        tells("5-6!9;", 5, 6, NONE, 9);
        tells("5@07:08!9;", 5, 5, 428, 9);
        fault("5@07:08-6;", 7);
        fault("5!9-6;", 3);
        fault("5!9@07:08;", 3);
        MonthPage x = new MonthPage();
        Pages.write(x, "5-5@07:08;5-6@07:08;5-5;");
        due.is("three", x.load(), 3);
        due.is("one day and a time: short", x.entry(0, 4), 0);
        due.is("two days and a time: long", x.entry(1, 4), 1);
        due.is("one day and no time: long", x.entry(2, 4), 1);
    }

    private static void daysHave1To3Digits() {
        tells("0;", 0, 0, NONE, 0);
        tells("00;", 0, 0, NONE, 0);
        tells("000;", 0, 0, NONE, 0);
        tells("007;", 7, 7, NONE, 0);
        tells("07-008;", 7, 8, NONE, 0);
        tells("10;", 10, 10, NONE, 0);
        tells("999;", 999, 999, NONE, 0);
        fault("0000;", 3);
        fault("0007;", 3);
        fault("1000;", 3);
        fault("5-0006;", 5);
        fault("5-1000;", 5);
    }

    private static void theTextEndsTooEarly() {
        String text = "123-456@12:34!5;";
        for (int length = 1; length < text.length(); length++) {
            String begun = text.substring(0, length);
            // A last day is less than the first one until it has all its digits.
            boolean less = length == 5 || length == 6;
            fault(begun, less ? length - 1 : length);
            fault("7;" + begun, 2 + (less ? length - 1 : length));
        }
        due.is("the whole text", load(text), 1);
    }

    private static void theFirstByteThatCannotStand() {
        String text = "123-456@12:34!5;";
        for (int at = 0; at < text.length(); at++) {
            // Behind 45 the last day has been read, and is less.
            int fault = at == 5 || at == 6 ? at - 1 : at;
            fault(text.substring(0, at) + "x" + text.substring(at + 1), fault);
            fault(text.substring(0, at) + "/" + text.substring(at + 1), fault);
            fault(text.substring(0, at) + "," + text.substring(at + 1), fault);
        }
        fault(text + "x", 16);
        fault("x" + text, 0);
    }

    private static void aLastDayThatIsLess() {
        fault("9-8;", 2);
        fault("1-0;", 2);
        fault("10-9;", 3);
        fault("10-09;", 4);
        fault("10-009;", 5);
        fault("999-998;", 6);
        fault("999-0;", 4);
        fault("5-4@10:00;", 2);
        fault("5-4!1;", 2);
        fault("5-4x", 2);
        fault("5-4-", 2);
        fault("5;6;7-6;8;", 6);
    }

    private static void aLastDayThatIsLessAtTheTextsEnd() {
        fault("5-4", 2);
        fault("20-1", 3);
        fault("20-19", 4);
        fault("200-19", 5);
        fault("200-199", 6);
        fault("20-20", 5);
        fault("20-21", 5);
        fault("20-2", 3);
        fault("20-0", 3);
        fault("0-0", 3);
    }

    private static void aDigitTooManyIsTheFaultItself() {
        fault("1234", 3);
        fault("12345", 3);
        fault("5-1234", 5);
        fault("200-1999;", 7);
        fault("200-1000", 7);
        fault("200-2000", 7);
        fault("9-0000;", 5);
        fault("9-0010;", 5);
        fault("5@123", 4);
        fault("5@10:123", 7);
        fault("5!12", 3);
    }

    private static void anHourAbove23() {
        fault("5@24:00;", 3);
        fault("5@24", 3);
        fault("5@24x", 3);
        fault("5@240", 3);
        fault("5@29:00;", 3);
        fault("5@30:00;", 3);
        fault("5@99:99;", 3);
        fault("5@3", 3);
        fault("5@3x", 3);
        fault("5@9:00;", 3);
        fault("5@23", 4);
        fault("5@23x", 4);
    }

    private static void aMinuteAbove59() {
        fault("5@10:60;", 6);
        fault("5@10:60", 6);
        fault("5@10:60x", 6);
        fault("5@10:600", 6);
        fault("5@10:99!1;", 6);
        fault("5@23:60;", 6);
        fault("5@10:6", 6);
        fault("5@10:6x", 6);
        fault("5@10:6;", 6);
        fault("5@10:59", 7);
        fault("5@10:59x", 7);
    }

    private static void theFirstFaultOfSeveral() {
        fault("9-8@24:60!10;", 2);
        fault("9@24:60!10;", 3);
        fault("9@23:60!10;", 6);
        fault("9@23:59!10;", 9);
        fault("x9-8;", 0);
        fault("9-8;x", 2);
        fault("5;6@99:00;7-6;", 5);
    }

    private static void a25thEntry() {
        String all = "7;".repeat(24);
        due.is("24 entries", load(all), 24);
        due.is("23 entries", load("7;".repeat(23)), 23);
        String[] begins = {"7;", "7", "9-8;", "7@24", "x", ";", "-", "1234;", "7-9@10:00!3;"};
        for (String begin : begins) {
            fault(all + begin, 48);
        }
        fault("x" + all, 0);
        fault("7;".repeat(23) + "9-8;7;", 48);
        fault("7;".repeat(23) + "x;7;7;", 46);
    }

    /** Only a digit can begin an entry; and then it ends too early. */
    private static void eachByteAlone() {
        for (char c = 33; c <= 126; c++) {
            fault(String.valueOf(c), c >= '0' && c <= '9' ? 1 : 0);
        }
    }

    private static void eachByteBehindAnEntry() {
        for (char c = 33; c <= 126; c++) {
            boolean digit = c >= '0' && c <= '9';
            fault("5;" + c, digit ? 3 : 2);
            if (c == ';') {
                due.is("an entry", load("5" + c), 1);
            } else {
                fault("5" + c, digit || c == '-' || c == '@' || c == '!' ? 2 : 1);
            }
            fault("5-6" + c + "x", digit || c == '@' || c == '!' || c == ';' ? 4 : 3);
            fault("5@10:00" + c + "x", c == '!' || c == ';' ? 8 : 7);
            fault("5@10" + c + "x", c == ':' ? 5 : 4);
            fault("5!1" + c + "x", c == ';' ? 4 : 3);
        }
    }
}
