/** The edges of THE RULE: write, erase, fault, and what a rule comes to. */
public final class RuleEdgesTest extends Check {
    private static final String UNITS = "0123456789ancbkt";

    public static void main(String[] args) {
        runAll(RuleEdgesTest.class);
    }

    private static void fault(String rule, int want) {
        BogBoards x = new BogBoards();
        rule(x, rule);
        due("fault of '" + rule + "'", x.fault(), want);
    }

    private static void whole(String... rules) {
        for (String rule : rules) {
            fault(rule, -1);
        }
    }

    /** One walker, one place from his goal: he goes there in a round just if the rule tells 1, by 4 left over. */
    private static void goes(String rule, boolean goes) {
        BogBoards x = bog("last 1;walker 1 0 1;", rule);
        due("fault of '" + rule + "'", x.fault(), -1);
        due("whether he goes by '" + rule + "'", x.mist(1, 1), goes ? 1 : 0);
    }

    private static void isTrue(String... rules) {
        for (String rule : rules) {
            goes(rule, true);
        }
    }

    private static void isFalse(String... rules) {
        for (String rule : rules) {
            goes(rule, false);
        }
    }

    static void charactersAreZeroTo127() {
        sentence("write: a character (0 .. 127) behind THE RULE: how many. BAD");
        BogBoards x = new BogBoards();
        due("write(0)", x.write(0), 1);
        due("write(127)", x.write(127), 2);
        due("write(1)", x.write(1), 3);
        int[] bad = {-1, 128, 255, 256 + 97, Integer.MIN_VALUE, Integer.MAX_VALUE};
        for (int c : bad) {
            due("write(" + c + ")", x.write(c), -2);
        }
        due("count(3)", x.count(3), 3);
        refusals(x, bad.length, 0, 0);
    }

    static void fortyCharactersAtMost() {
        sentence("THE RULE (40 characters at most); write: FULL: 40");
        BogBoards x = new BogBoards();
        for (int i = 1; i <= 40; i++) {
            due("write(32)", x.write(32), i);
        }
        due("write(97) when full", x.write(97), -4);
        due("count(3)", x.count(3), 40);
        due("fault()", x.fault(), 401);
        refusals(x, 0, 0, 1);
        whole("1" + "+1".repeat(19) + " ");
        whole(" ".repeat(39) + "a");
        whole("!".repeat(39) + "a");
        whole("-".repeat(39) + "a");
        fault("1" + "+1".repeat(19) + "+", 401);
        goes("1" + "+1".repeat(16) + "       ", true);
        goes("1" + "|0".repeat(19) + " ", true);
        goes("-".repeat(39) + "3", true);
        goes("-".repeat(38) + "3", false);
    }

    static void badIsAheadOfFull() {
        sentence("Refused, the first of: BAD -2; NO -3; FULL -4 (write)");
        BogBoards x = new BogBoards();
        rule(x, " ".repeat(40));
        due("write(128) when full", x.write(128), -2);
        due("write(-1) when full", x.write(-1), -2);
        refusals(x, 2, 0, 0);
    }

    static void eraseAnswersHowMany() {
        sentence("erase: It is empty: how many");
        BogBoards x = new BogBoards();
        due("erase() of none", x.erase(), 0);
        rule(x, "a+b");
        due("fault()", x.fault(), -1);
        due("erase()", x.erase(), 3);
        due("count(3)", x.count(3), 0);
        due("fault()", x.fault(), 1);
        due("erase() again", x.erase(), 0);
        rule(x, " ".repeat(40));
        due("erase() of a full one", x.erase(), 40);
        due("write behind it", x.write(97), 1);
        due("fault()", x.fault(), -1);
        refusals(x, 0, 0, 0);
    }

    static void anEmptyRuleIsAFault() {
        sentence("fault: FAULT of THE RULE (empty: 1)");
        due("fault()", new BogBoards().fault(), 1);
        fault("", 1);
    }

    static void aWholeRuleHasNone() {
        sentence("fault: NONE");
        BogBoards x = new BogBoards();
        rule(x, "1");
        due("fault()", x.fault(), -1);
        x.write('+');
        due("fault() behind one more", x.fault(), 21);
        x.write('1');
        due("fault() behind one more", x.fault(), -1);
        x.write('1');
        x.write('x');
        due("fault() behind two more", x.fault(), 41);
        refusals(x, 0, 0, 0);
    }

    static void whatAUnitBeginsWith() {
        sentence("UNIT: digits, a, n, c, b, k, t, ( VALUE ), ! UNIT, - UNIT");
        for (int c = 0; c <= 127; c++) {
            String sign = "" + (char) c;
            boolean isUnit = UNITS.indexOf(c) >= 0;
            boolean begins = "(!- ".indexOf(c) >= 0;
            fault(sign, isUnit ? -1 : begins ? 11 : 1);
            for (String ahead : new String[] {"a+", "1*", "a|", "a&", "a<", "(", "!", "-"}) {
                int at = 10 * ahead.length() + 1;
                int whole = ahead.equals("(") ? at + 10 : -1;
                fault(ahead + sign, isUnit ? whole : begins ? at + 10 : at);
            }
        }
    }

    static void whatMayFollowAUnit() {
        sentence("FAULT: the first character that can not stand there (behind a UNIT)");
        for (int c = 0; c <= 127; c++) {
            String sign = "" + (char) c;
            boolean isSign = "|&<>=+-*/".indexOf(c) >= 0;
            fault("a" + sign, c == ' ' ? -1 : isSign ? 21 : 11);
            fault("(a" + sign, c == ')' ? -1 : c == ' ' || isSign ? 31 : 21);
            fault("(a)" + sign, c == ' ' ? -1 : isSign ? 41 : 31);
            boolean isDigit = c >= '0' && c <= '9';
            fault("1" + sign, c == ' ' || isDigit ? -1 : isSign ? 21 : 11);
            fault("1 " + sign, c == ' ' ? -1 : isSign ? 31 : 21);
        }
    }

    static void valuesOfBoths() {
        sentence("VALUE: BOTHS with | between; BOTH: HELDS with & between");
        whole("a|b", "a|b|c|k", "a&b", "a&b&c&k", "a|b&c|k&t", "a&b|c&k");
        fault("|", 1);
        fault("&", 1);
        fault("a|", 21);
        fault("a&", 21);
        fault("a||b", 21);
        fault("a&&b", 21);
        fault("a|&b", 21);
        fault("a&|b", 21);
        fault("a|b|", 41);
        fault("a&b&", 41);
        fault("a|)", 21);
        fault("(a|)", 31);
        fault("(&a)", 11);
    }

    static void oneComparisonInAHeld() {
        sentence("HELD: SUM, or SUM < SUM, SUM > SUM, SUM = SUM");
        char[] signs = {'<', '>', '='};
        for (char first : signs) {
            whole("1" + first + "2", "1+2" + first + "3*4", "1" + first + "2&3" + first + "4|5" + first + "6",
                "(1" + first + "2)" + first + "3", "1" + first + "(2" + first + "3)", "1" + first + "-1");
            fault("1" + first, 21);
            fault("" + first + "1", 1);
            for (char second : signs) {
                fault("1" + first + "2" + second + "3", 31);
                fault("1" + first + second + "3", 21);
                fault("(1" + first + "2" + second + "3)", 41);
                fault("a&1" + first + "2" + second + "3", 51);
            }
        }
    }

    static void sumsAndTerms() {
        sentence("SUM: TERMS with + or -; TERM: UNITS with * or /");
        whole("1+2-3+4", "1*2/3*4", "1+2*3-4/5", "1--1", "1+-1", "1*-1", "1/!1", "1- - -1");
        fault("+1", 1);
        fault("*1", 1);
        fault("/1", 1);
        fault("1++1", 21);
        fault("1+*1", 21);
        fault("1*/1", 21);
        fault("1-+1", 21);
        fault("1**1", 21);
        fault("1-", 21);
        fault("1/", 21);
    }

    static void oneToSixDigits() {
        sentence("UNIT: digits (1 to 6); 2: a seventh digit (at the first)");
        whole("0", "9", "12", "123", "1234", "12345", "123456", "000000", "999999", "a+123456", "(123456)");
        fault("1234567", 2);
        fault("12345678", 2);
        fault("0000000", 2);
        fault("1234567890123456789012345678901234567890", 2);
        fault(" 1234567", 12);
        fault("a+1234567", 22);
        fault("(1234567)", 12);
        fault("!-1234567", 22);
        fault("123456+1234567", 72);
        fault("1234567+(", 2);
        fault("1234567x", 2);
        fault("123456x", 61);
        fault("123456 7", 71);
        // Where no UNIT can stand, it is no seventh digit that is wrong.
        fault("a1234567", 11);
        fault("1 1234567", 21);
    }

    static void theNinthOpen() {
        sentence("3: the 9th ( open");
        whole("((((((((a))))))))", "((((((((1)))))))+1)", "(1)+(1)+(1)+(1)+(1)+(1)+(1)+(1)+(1)+(1)",
            "(a)+((((((((a))))))))", "!(!(!(!(!(!(!(!(a))))))))");
        fault("(((((((((", 83);
        fault("(((((((((a)))))))))", 83);
        fault("((((((((a))+(((", 143);
        fault("((((((((a))+((", 141);
        fault("(a)+(((((((((", 123);
        fault("!(!(!(!(!(!(!(!(!(", 173);
        fault(" ( ( ( ( ( ( ( ( (", 173);
        fault("((((((((1+(", 103);
        fault("((((((((", 81);
        // Where no ( can stand, it is not the 9th that is wrong.
        fault("((((((((a(", 91);
        fault("((((((((a)(", 101);
    }

    static void parenthesesAreClosed() {
        sentence("UNIT: ( VALUE )");
        whole("(a)", "((a))", "(a|b)", "(1<2)", "( a )");
        fault("()", 11);
        fault("(a", 21);
        fault("((a)", 41);
        fault("(a))", 31);
        fault(")", 1);
        fault("a)", 11);
        fault("(a)(b)", 31);
        fault("(a)b", 31);
        fault("a(b)", 11);
    }

    static void blanksWithinDigits() {
        sentence("blanks anywhere but within digits");
        whole(" a", "a ", "  a  +  b  ", "( ( a ) )", "! ! a", "- - 1", "1 < 2", " 1 | 2 & 3 ", "a * ! b");
        fault("1 2", 21);
        fault("12 3", 31);
        fault("1  2", 31);
        fault("a b", 21);
        fault("1 a", 21);
        fault("a 1", 21);
        fault("a\t", 11);
        fault("\ta", 1);
        fault("a\n", 11);
    }

    static void tooEarly() {
        sentence("FAULT: (its length: too early) and 1");
        fault(" ", 11);
        fault("   ", 31);
        fault("(", 11);
        fault("( ", 21);
        fault("!", 11);
        fault("-", 11);
        fault("a+", 21);
        fault("a+ ", 31);
        fault("(a ", 31);
        fault("(a+1", 41);
        fault("1<", 21);
        fault(" ".repeat(40), 401);
        fault("a+" + " ".repeat(38), 401);
    }

    static void theFirstFaultIsTold() {
        sentence("FAULT: 10 times the place of the first character that can not stand there and 1");
        fault("z1234567", 1);
        fault("1234567(((((((((", 2);
        fault("(((((((((1234567", 83);
        fault("a+x+y", 21);
        fault("aA", 11);
        fault("a+" + " ".repeat(37) + "x", 391);
        fault("1" + "+1".repeat(19) + "x", 391);
    }

    static void aRuleTakesThePlaceOfTheOneAheadOfIt() {
        sentence("erase: It is empty (nothing of it is left, also in the mist)");
        BogBoards x = bog("last 1;walker 1 0 1;");
        for (int i = 1; i <= 8; i++) {
            boolean goes = i % 2 == 1;
            rule(x, "0|".repeat(19) + (goes ? "1" : "0") + " ");
            due("whether he goes by rule " + i, x.mist(1, 1), goes ? 1 : 0);
        }
    }

    static void truths() {
        sentence("truths 1, 0 (not 0 is a truth)");
        isTrue("1<2", "2>1", "2=2", "!0", "2&4", "4|2", "0|2", "2|0", "-1&-1", "!!5", "-1|0", "(3<4)=1", "(2&4)=1", "(2|4)=1",
            "(0-1)&1", "1<2&2<3", "0|0|7");
        isFalse("2<1", "1<1", "1>1", "1>2", "1=2", "!1", "!5", "!-1", "0&1", "1&0", "0|0", "2&0|0", "(1<2)=2", "(2|4)=6");
        // What is not joined by & or | stays as it is.
        isTrue("5", "-3");
        isFalse("2", "3", "4", "6");
    }

    static void allIsWorked() {
        sentence("all is worked (also behind what tells the truth already, and what divides by 0)");
        isTrue("1|1/0", "0|1/0|1", "!(0&1/0)", "(1/0=0)&1", "1&1/0+1");
        isFalse("0&1/0", "1/0&1", "0|1/0");
    }

    static void signsBindAsTheyAreTold() {
        sentence("VALUE, BOTH, HELD, SUM, TERM, UNIT: which of them binds more");
        isTrue("1|0&0", "(1|0)&1", "0&0|1", "2+3*5", "1+2<4", "3-2-4", "24/4/2+2", "1-2*3+2*3", "!0+4", "!1+1", "-1+2", "-3*1",
            "2*-1+3", "1=1&1", "2<3|0", "10-3-2", "7-2*3", "-1*-1", "!(1&0)", "8/4*2+1", "3*2/6");
        isFalse("(1|0)&0", "(2+3)*4", "10-(3-1)", "!(0+4)", "3-(2-3)");
    }

    static void signsAheadOfAUnit() {
        sentence("UNIT: ! UNIT, - UNIT (the one next to it first)");
        isTrue("!!1", "!!5", "-!0+2", "--1", "---3", "!-0", "! - ! 3", "-!-!2+2", "!!!0", "-(3)", "-(-1)", "1--4", "1-!2");
        isFalse("!-1", "-!1", "-!0", "!!0", "!!!4", "-!!2");
    }

    static void divisions() {
        sentence("/ cut toward 0, by 0 is 0");
        isTrue("7/5", "-7/2", "3/2", "-7/-5", "5/5", "1/1", "7/0+1", "0/0+1", "9/(3-3)+1", "-13/-10", "9/10+1", "-9/10+1", "1-9/-10");
        isFalse("7/0", "-7/0", "0/5", "9/10", "-9/10", "9/-10");
    }

    static void longsWrap() {
        sentence("longs wrap");
        // 4096 to the fifth, times 8, is 2 to the 63rd: below 0, and the same below 0 again.
        isTrue("4096*4096*4096*4096*4096*8<0", "-(4096*4096*4096*4096*4096*8)<0", "4096*4096*4096*4096*4096*8/-1<0",
            "4096*4096*4096*4096*4096*8-1>0", "-1+4096*4096*4096*4096*4096*8>0", "4096*4096*4096*4096*4096*16=0",
            "-(4096*4096*4096*4096*4096*8-1)<0");
        isFalse("4096*4096*4096*4096*4096*4<0", "4096*4096*4096*4096*4096*16");
        isTrue("999999*999999*999999*999999", "65536*65536+1", "65536*65536=4294*1000*1000+967296");
    }

    static void numbersAreTen() {
        sentence("UNIT: digits");
        isTrue("10=9+1", "100=10*10", "999999=1000*1000/1-1", "012=12", "000001", "123456=123*1000+456", "9=3*3", "0=1-1");
    }
}
