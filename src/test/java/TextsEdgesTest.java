/** The sentences of the document's section 4 and of promises 22 to 26 that name a bound: a test of its own for each. */
public final class TextsEdgesTest {
    private static final int MIN = Integer.MIN_VALUE, MAX = Integer.MAX_VALUE;
    private static final int RIGHT = -1;

    public static void main(String[] args) {
        p22ninetySixBytesAtMost();
        p22wouldHaveMoreThan96();
        p22theHighestByteFirst();
        p22everyByteComesAsItIs();
        p23keepsItsFirstBytes();
        p23fromNoneToAll();
        p24textsFourteenAtMostNumberedFrom0();
        p24theTapeIsUsedUpWhateverIsAnswered();
        p24theFaultStandsAheadOfFull();
        p24anEmptyTape();
        p24aTapeOf96Bytes();
        p24keysAsTheyAreWritten();
        p24keysWithOneLetterChanged();
        p24numbersOf1To4Digits();
        p24namesOfEachKey();
        p24namesAreOneLetter();
        p24oneTestAtMost();
        p24everyByteInPlaceOfAPiece();
        p24everyByteBehindAPiece();
        p24everyByteAheadOfTheKey();
        p24everyByteBehindTheKey();
        p24blanksBetweenAndAtTheEnds();
        p24aWordBehindAnotherNeedsABlank();
        p24theFirstFaultOfSeveral();
        p24theEndThatComesTooSoon();
        p24theNinthBracketThatIsOpen();
        p24theNinthNotThatIsOpen();
        p24bracketsAndNotsEachByItself();
        p24bracketsThatDoNotClose();
        p24intsWrap();
        p24aQuotientIsCutTowards0();
        p24aQuotientBy0Is0();
        p24testsAtTheBound();
        p24whatIsNot0IsTrue();
        p24theLoosestFirst();
        p24fromLeftToRight();
        p24whatNamesTell();
        p25howManyNumbersAndNames();
        p25nothingIsLeftOfAFault();
        p25keysOfTexts();
        p26theOneToldLastCounts();
        Due.finish();
    }

    private static TwelveShort fed(int times) {
        TwelveShort x = new TwelveShort();
        for (int i = 1; i <= times; i++) {
            Due.is("22: feed", x.feed(0x20202020, 0x20202020, 0x20202020), 12 * i);
        }
        return x;
    }

    /** "THE TAPE (96 bytes at most)" */
    private static void p22ninetySixBytesAtMost() {
        TwelveShort x = fed(8);
        Due.is("22: the ninth", x.feed(0, 0, 0), TwelveShort.FULL);
        Due.is("22: bytes", x.count(6), 96);
    }

    /** "FULL: it would have more than 96." */
    private static void p22wouldHaveMoreThan96() {
        for (int has = 80; has <= 96; has++) {
            TwelveShort x = fed(8);
            x.trim(has);
            Due.is("22: behind " + has, x.feed(1, 2, 3), has <= 84 ? has + 12 : TwelveShort.FULL);
            Due.is("22: bytes", x.count(6), has <= 84 ? has + 12 : has);
        }
    }

    /** "Twelve bytes come to THE TAPE, the highest of each number first" */
    private static void p22theHighestByteFirst() {
        TwelveShort x = new TwelveShort();
        // "fee 1234+567"
        Due.is("22: feed", x.feed(0x66656520, 0x31323334, 0x2b353637), 12);
        Due.is("24: text", x.text(), 0);
        Due.is("20: fee", x.fee(), 1234 + 567);
        // Behind what is there already: "fine" and "   w*1000-o ", trimmed.
        Due.is("22: feed", x.feed(0x66696e65, 0, 0), 12);
        x.trim(4);
        Due.is("22: feed", x.feed(0x20202077, 0x2a313030, 0x302d6f20), 16);
        Due.is("24: text", x.text(), 1);
        x.person(0, 7, 0, 8);
        Due.is("21: fine", x.fine(0), 7993);
    }

    /** Each byte at each of the twelve places is the first that goes wrong, or is a blank. */
    private static void p22everyByteComesAsItIs() {
        TwelveShort x = new TwelveShort();
        for (int b = 128; b < 256; b += 127) {
            for (int at = 0; at < 12; at++) {
                int[] words = {0x20202020, 0x20202020, 0x20202020};
                int shift = 24 - 8 * (at % 4);
                words[at / 4] = words[at / 4] & ~(255 << shift) | b << shift;
                x.feed(words[0], words[1], words[2]);
                Due.is("22: byte " + b + " at " + at, x.text(), -100 - at);
            }
        }
    }

    /** "THE TAPE keeps its first n bytes: n." */
    private static void p23keepsItsFirstBytes() {
        int[][] due = {{4, -104}, {5, 0}, {6, -106}, {7, 0}, {8, 0}, {9, 0}, {10, 0}, {11, -106}, {12, -106}};
        for (int[] d : due) {
            TwelveShort x = new TwelveShort();
            // "fee s+123456", of which a number of five digits is none.
            x.feed(0x66656520, 0x732b3132, 0x33343536);
            Due.is("23: trim(" + d[0] + ")", x.trim(d[0]), d[0]);
            Due.is("24: of " + d[0] + " bytes", x.text(), d[1]);
        }
    }

    private static void p23fromNoneToAll() {
        for (int times = 0; times <= 8; times += 4) {
            TwelveShort x = fed(times);
            int has = 12 * times;
            Due.is("23: one more than all", x.trim(has + 1), TwelveShort.BAD);
            Due.is("23: all", x.trim(has), has);
            Due.is("23: below none", x.trim(-1), TwelveShort.BAD);
            Due.is("23: bytes", x.count(6), has);
            if (has > 0) {
                Due.is("23: all but one", x.trim(has - 1), has - 1);
                Due.is("23: all again", x.trim(has), TwelveShort.BAD);
            }
            Due.is("23: none", x.trim(0), 0);
            Due.is("23: bytes", x.count(6), 0);
            Due.is("23: one of none", x.trim(1), TwelveShort.BAD);
        }
    }

    /** "TEXTS, 14 at most, numbered from 0" */
    private static void p24textsFourteenAtMostNumberedFrom0() {
        TwelveShort x = new TwelveShort();
        for (int i = 0; i < 14; i++) {
            Due.is("24: the number of the next", Due.text(x, "fee " + 100 * i), i);
            Due.is("24: how many", x.count(4), i + 1);
            Due.is("20: what it gives", x.fee(), 100 * i);
        }
        Due.is("24: the fifteenth", Due.text(x, "fee 7"), TwelveShort.FULL);
        Due.is("24: how many", x.count(4), 14);
        Due.is("20: the fourteenth still counts", x.fee(), 1300);
        Due.is("26: the fourteenth still counts", x.why(1), 13);
        Due.is("24: the fifteenth of another KEY", Due.text(x, "ask 7"), TwelveShort.FULL);
        Due.is("26: none counts", x.why(0), TwelveShort.NONE);
    }

    /** "an act that reads it uses it up, whatever it answers" */
    private static void p24theTapeIsUsedUpWhateverIsAnswered() {
        TwelveShort x = new TwelveShort();
        String[] texts = {"fee 1", "fee", "fee 1 1", "(", "        "};
        for (String text : texts) {
            Due.text(x, text);
            Due.is("24: bytes behind '" + text + "'", x.count(6), 0);
            Due.is("24: nothing to read then", x.text(), -100);
        }
        for (int i = 1; i < 14; i++) {
            Due.text(x, "fee 1");
        }
        Due.text(x, "fee 1");
        Due.is("24: bytes behind FULL", x.count(6), 0);
        Due.is("22: room for all 96 then", fedUp(x), 96);
    }

    private static int fedUp(TwelveShort x) {
        int last = 0;
        for (int i = 0; i < 8; i++) {
            last = x.feed(0, 0, 0);
        }
        return last;
    }

    /** "-100 less the place of its FAULT; FULL." */
    private static void p24theFaultStandsAheadOfFull() {
        TwelveShort x = new TwelveShort();
        for (int i = 0; i < 14; i++) {
            Due.text(x, "fee 1");
        }
        Due.is("24: no FAULT, FULL", Due.text(x, "fee 1"), TwelveShort.FULL);
        Due.is("24: a FAULT, FULL", Due.text(x, "fee 1 1"), -106);
        Due.is("24: a FAULT at the end, FULL", Due.text(x, "fee "), -104);
        Due.is("24: no bytes, FULL", x.text(), -100);
        Due.is("25: all as it was", x.textTold(13, 1), 1);
        Due.is("20: all as it was", x.fee(), 1);
    }

    private static void fault(String text, int place) {
        TwelveShort x = new TwelveShort();
        Due.is("24: '" + text + "'", Due.text(x, text), place == RIGHT ? 0 : -100 - place);
        Due.is("24: TEXTS behind '" + text + "'", x.count(4), place == RIGHT ? 1 : 0);
    }

    private static void p24anEmptyTape() {
        Due.is("24: no bytes", new TwelveShort().text(), -100);
        for (int blanks = 1; blanks <= 96; blanks += 19) {
            fault(" ".repeat(blanks), blanks);
        }
    }

    private static void p24aTapeOf96Bytes() {
        String ones = "fee 1" + "+1".repeat(45);
        fault(ones, RIGHT);
        fault(ones + "1", RIGHT);
        fault(ones + " ", RIGHT);
        fault(ones + "+", 96);
        fault(ones + "(", 95);
        fault(ones + "s", 95);
        fault("fee s" + " ".repeat(91), RIGHT);
        fault(" ".repeat(91) + "fee s", RIGHT);
        fault("fee" + " ".repeat(92) + "s", RIGHT);
        fault("fee" + " ".repeat(93), 96);
        fault("f".repeat(96), 0);
        fault("fee " + "1".repeat(92), 4);
        fault("fee " + "s".repeat(92), 4);
        fault("fee " + "(".repeat(92), 12);
        fault("fee " + "!".repeat(92), 12);
    }

    /** "KEY: ask | fee | fine" */
    private static void p24keysAsTheyAreWritten() {
        fault("ask 1", RIGHT);
        fault("fee 1", RIGHT);
        fault("fine 1", RIGHT);
        String[] none = {"as 1", "asks 1", "Ask 1", "fe 1", "fees 1", "fin 1", "fines 1", "f 1", "a 1", "o 1", "askfee 1", "1 ask", "1",
            "ask1ask", "askfine", "feeask", "eef 1", "fix 1", "fee1fee", "zask 1", "a sk 1"};
        for (String text : none) {
            fault(text, text.startsWith("ask1") || text.startsWith("fee1") ? 3 : 0);
            fault("  " + text, text.startsWith("ask1") || text.startsWith("fee1") ? 5 : 2);
        }
        fault("ask ask 1", 4);
        fault("ask fee 1", 4);
        fault("fine fine", 5);
        fault("fee 1 fee 1", 6);
    }

    private static void p24keysWithOneLetterChanged() {
        String[] keys = {"ask", "fee", "fine"};
        for (String key : keys) {
            for (int at = 0; at < key.length(); at++) {
                for (char c = 'a'; c <= 'z'; c++) {
                    String other = key.substring(0, at) + c + key.substring(at + 1);
                    fault(other + " 1", other.equals(key) ? RIGHT : 0);
                }
                fault(key.substring(0, at) + " 1", at == 0 ? 1 : 0);
                fault(key.substring(0, at) + " " + key.substring(at) + " 1", at == 0 ? RIGHT : 0);
            }
        }
    }

    /** "NUMBER (1 to 4 digits)"; "a NUMBER of more than 4 digits" */
    private static void p24numbersOf1To4Digits() {
        String[] digits = {"0", "9", "10", "99", "100", "999", "1000", "9999", "0000", "0001", "00", "007"};
        for (String d : digits) {
            fault("fee " + d, RIGHT);
            TwelveShort x = new TwelveShort();
            Due.text(x, "fee " + d);
            Due.is("20: 'fee " + d + "'", x.fee(), Integer.parseInt(d));
        }
        fault("fee 10000", 4);
        fault("fee 00000", 4);
        fault("fee 00001", 4);
        fault("fee 99999", 4);
        fault("fee 123456789012345678901234567890", 4);
        fault("fee 1+10000", 6);
        fault("fee 1 +  10000 ", 9);
        fault("fee (10000)", 5);
        fault("fee 1000 0", 9);
        fault("fee 1 2", 6);
    }

    /** "NAMES, each one letter: of ask o .., w .., t .., n ..; of fee s .., f ..; of fine o .., w .." */
    private static void p24namesOfEachKey() {
        String[] keys = {"ask", "fee", "fine"};
        String[] names = {"owtn", "sf", "ow"};
        for (int key = 0; key < 3; key++) {
            for (char c = 'a'; c <= 'z'; c++) {
                fault(keys[key] + " " + c, names[key].indexOf(c) >= 0 ? RIGHT : keys[key].length() + 1);
                fault(keys[key] + "(1+" + c + ")", names[key].indexOf(c) >= 0 ? RIGHT : keys[key].length() + 3);
            }
            for (char c = 'A'; c <= 'Z'; c++) {
                fault(keys[key] + " " + c, keys[key].length() + 1);
            }
        }
    }

    /** "A word is a row of letters a .. z, or of digits, as long as it goes" */
    private static void p24namesAreOneLetter() {
        fault("fee ss", 4);
        fault("fee sf", 4);
        fault("fee s f", 6);
        fault("fee s+ff", 6);
        fault("fee s+sss+f", 6);
        fault("ask ow", 4);
        fault("ask own", 4);
        fault("ask own+1", 4);
        fault("fee s1", 5);
        fault("fee 1s", 5);
        fault("fee 1s1", 5);
    }

    /** "TEST: SUM [ (< | = | >) SUM ]" */
    private static void p24oneTestAtMost() {
        String[] signs = {"<", "=", ">"};
        for (String one : signs) {
            fault("fee 1" + one + "2", RIGHT);
            for (String two : signs) {
                fault("fee 1" + one + "2" + two + "3", 7);
                fault("fee 1" + one + two + "3", 6);
                fault("fee 1" + one + "2&2" + two + "3", RIGHT);
                fault("fee 1" + one + "2|2" + two + "3", RIGHT);
                fault("fee (1" + one + "2)" + two + "3", RIGHT);
                fault("fee 1" + one + "(2" + two + "3)", RIGHT);
                fault("fee 1" + one + "2+2" + two + "3", 9);
                fault("fee (1" + one + "2" + two + "3)", 8);
            }
        }
    }

    private static boolean isIn(String signs, int b) {
        return signs.indexOf(b) >= 0;
    }

    /** "FAULT: the first byte of the first word or sign with which no TEXT goes on": each byte where a PIECE is due. */
    private static void p24everyByteInPlaceOfAPiece() {
        for (int b = 0; b < 256; b++) {
            int place = isIn("sf0123456789", b) ? RIGHT : isIn("(! ", b) ? 5 : 4;
            fault("fee " + (char) b, place);
            int behind = isIn("sf0123456789", b) ? RIGHT : isIn("(! ", b) ? 7 : 6;
            fault("fee 1+" + (char) b, behind);
        }
    }

    /** Each byte right behind a NAME, which a letter makes longer, and right behind a NUMBER, which a digit does. */
    private static void p24everyByteBehindAPiece() {
        for (int b = 0; b < 256; b++) {
            boolean letter = b >= 'a' && b <= 'z';
            boolean digit = b >= '0' && b <= '9';
            boolean sign = isIn("|&<=>+-*/", b);
            fault("fee s" + (char) b, b == ' ' ? RIGHT : sign ? 6 : letter ? 4 : 5);
            fault("fee 1" + (char) b, b == ' ' || digit ? RIGHT : sign ? 6 : 5);
            fault("fee 1234" + (char) b, b == ' ' ? RIGHT : sign ? 9 : digit ? 4 : 8);
            fault("fee (1)" + (char) b, b == ' ' ? RIGHT : sign ? 8 : 7);
        }
    }

    private static void p24everyByteAheadOfTheKey() {
        for (int b = 0; b < 256; b++) {
            fault((char) b + "fee 1", b == ' ' ? RIGHT : 0);
            fault((char) b + " ask 1", b == ' ' ? RIGHT : 0);
            fault("" + (char) b, b == ' ' ? 1 : 0);
            fault("  " + (char) b, b == ' ' ? 3 : 2);
        }
    }

    private static void p24everyByteBehindTheKey() {
        for (int b = 0; b < 256; b++) {
            boolean letter = b >= 'a' && b <= 'z';
            fault("fee" + (char) b + "1", isIn(" !", b) ? RIGHT : b == '(' ? 5 : letter ? 0 : 3);
        }
    }

    /** "Between words and signs, and at the ends, there may be blanks (byte 32)" */
    private static void p24blanksBetweenAndAtTheEnds() {
        fault("fee(s+1)*!f|2<3&4", RIGHT);
        fault("  fee  (  s  +  1  )  *  !  f  |  2  <  3  &  4  ", RIGHT);
        fault("fee ( s + 1 ) * ! f | 2 < 3 & 4", RIGHT);
        fault("f ee 1", 0);
        fault("fee 1 2", 6);
        fault("fee 1  2", 7);
        int[] others = {0, 9, 10, 13, 31, 33 + 128, 95, 127, 128, 160, 255};
        for (int b : others) {
            fault("fee 1" + (char) b, 5);
            fault("fee" + (char) b + "1", 3);
            fault((char) b + "fee 1", 0);
            fault("fee 1" + (char) b + "+1", 5);
            fault("fee 1+" + (char) b + "1", 6);
        }
    }

    /** "a word right behind another one needs one" */
    private static void p24aWordBehindAnotherNeedsABlank() {
        fault("fee1", 3);
        fault("ask1", 3);
        fault("fine1", 4);
        fault("fee 1", RIGHT);
        fault("fee12345", 3);
        fault("fee!1", RIGHT);
        fault("fee(1)", RIGHT);
        fault("fees", 0);
        fault("fee 1+1s", 7);
        fault("fee 1+s1", 7);
        fault("fee(s)1", 6);
        fault("fee(s)f", 6);
    }

    private static void p24theFirstFaultOfSeveral() {
        fault("fee 1 1 1", 6);
        fault("fee 10000 10000", 4);
        fault("fee ) )", 4);
        fault("ask s+", 4);
        fault("fee s++f)", 6);
        fault("fee (((((((((10000", 12);
        fault("fee ((((((((10000", 12);
        fault("xyz 10000", 0);
        fault("fee1 1", 3);
    }

    /** "the end (the place behind the last byte), if it comes too soon" */
    private static void p24theEndThatComesTooSoon() {
        String text = "fine (o+12)*!w<3&1|0";
        // Where a TEXT may end: with all brackets closed, behind a PIECE.
        String right = "fine (o+12)";
        for (int length = 0; length <= text.length(); length++) {
            String part = text.substring(0, length);
            boolean whole = part.equals(right) || length > right.length() && "w310".indexOf(part.charAt(length - 1)) >= 0;
            int place = whole ? RIGHT : length < 4 && length > 0 ? 0 : length;
            fault(part, place);
            if (length > 4) {
                fault(part + "   ", whole ? RIGHT : length + 3);
            }
        }
    }

    /** "the ninth ( that would be open within others" */
    private static void p24theNinthBracketThatIsOpen() {
        for (int many = 1; many <= 10; many++) {
            String open = "(".repeat(many);
            String close = ")".repeat(many);
            fault("fee " + open + "s" + close, many <= 8 ? RIGHT : 12);
            fault("fee " + open, many <= 8 ? 4 + many : 12);
            fault("fee 1+" + open + "1+1" + close, many <= 8 ? RIGHT : 14);
        }
        fault("fee ((((((((1))))))))+((((((((1))))))))", RIGHT);
        fault("fee ((((((((1))))))))+(((((((((1)))))))))", 30);
        fault("fee (((((((((1)+(1)))))))))", 12);
        fault("fee (((((((1)+(1)))))))", RIGHT);
        fault("fee ((((((((1)+(1))))))))", RIGHT);
        fault("fee (((((((((", 12);
        fault("fee (1)+(1)+(1)+(1)+(1)+(1)+(1)+(1)+(1)+(1)", RIGHT);
        fault("fee (1+(1+(1+(1+(1+(1+(1+(1+1))))))))", RIGHT);
        fault("fee (1+(1+(1+(1+(1+(1+(1+(1+(1)))))))))", 28);
    }

    /** "the ninth ! likewise" */
    private static void p24theNinthNotThatIsOpen() {
        for (int many = 1; many <= 10; many++) {
            String nots = "!".repeat(many);
            fault("fee " + nots + "s", many <= 8 ? RIGHT : 12);
            fault("fee " + nots, many <= 8 ? 4 + many : 12);
            fault("fee 1+" + nots + "(1)", many <= 8 ? RIGHT : 14);
            TwelveShort x = new TwelveShort();
            Due.text(x, "fee " + nots + "7");
            Due.is("20: " + nots + "7", x.fee(), many > 8 ? 0 : (many + 1) % 2);
        }
        fault("fee !!!!!!!!1+!!!!!!!!1", RIGHT);
        fault("fee !!!!!!!!1+!!!!!!!!!1", 22);
        fault("fee !(!(!(!(!(!(!(!(1))))))))", RIGHT);
        fault("fee !(!(!(!(!(!(!(!(!1))))))))", 20);
        fault("fee !(1+!!!!!!!1)", RIGHT);
        fault("fee !(1+!!!!!!!!1)", 15);
        fault("fee !(1)+!!!!!!!!1", RIGHT);
        fault("fee !1&!1&!1&!1&!1&!1&!1&!1&!1&!1", RIGHT);
        fault("fee ! ! ! ! ! ! ! ! ! 1", 20);
    }

    /** "each by itself" */
    private static void p24bracketsAndNotsEachByItself() {
        fault("fee !!!!!!!!((((((((1))))))))", RIGHT);
        fault("fee ((((((((!!!!!!!!1))))))))", RIGHT);
        fault("fee !!!!!!!!(((((((((1)))))))))", 20);
        fault("fee ((((((((!!!!!!!!!1))))))))", 20);
        fault("fee !(!(!(!(!(!(!(!((1)))))))))", 20);
        fault("fee (!(!(!(!(!(!(!(!1))))))))", RIGHT);
        fault("fee (!(!(!(!(!(!(!(!(1)))))))))", 20);
    }

    private static void p24bracketsThatDoNotClose() {
        fault("fee (1", 6);
        fault("fee ((1)", 8);
        fault("fee (1))", 7);
        fault("fee )", 4);
        fault("fee 1)", 5);
        fault("fee ()", 5);
        fault("fee (1+)", 7);
        fault("fee (1 1)", 7);
        fault("fee !()", 6);
        fault("fee !)", 5);
    }

    /** s is 2, f is 3. */
    private static void give(String text, int want) {
        TwelveShort x = new TwelveShort();
        x.rule(0, 0);
        x.sits(0);
        x.sits(0);
        x.sits(0);
        x.person(0, 50, 0, 0);
        x.sits(0);
        x.sits(0);
        Due.is("24: 'fee " + text + "'", Due.text(x, "fee " + text), 0);
        Due.is("20: 'fee " + text + "'", x.fee(), want);
    }

    private static final String LEAST = "2*8192*4096*32", MOST = "(2*8192*4096*32-1)";

    /** "Ints wrap" */
    private static void p24intsWrap() {
        give(LEAST, MIN);
        give(MOST, MAX);
        give(MOST + "+1", MIN);
        give(MOST + "+" + MOST, -2);
        give(LEAST + "-1", MAX);
        give(LEAST + "+" + LEAST, 0);
        give("0-" + LEAST, MIN);
        give("0-1-" + MOST, MIN);
        give(MOST + "*2", -2);
        give(MOST + "*" + MOST, 1);
        give(LEAST + "*3", MIN);
        give("9999*9999*9999", (int) (9999L * 9999 * 9999));
        give("9999*9999*9999*9999*9999*9999*9999", 9999 * 9999 * 9999 * 9999 * 9999 * 9999 * 9999);
        give("(" + LEAST + ")/(0-1)", MIN);
        give("(" + LEAST + ")/1", MIN);
        give(MOST + "/(0-1)", -MAX);
        give("(" + LEAST + ")<0", 1);
        give(LEAST + "-1>0", 1);
    }

    /** "/ cuts towards 0" */
    private static void p24aQuotientIsCutTowards0() {
        give("7/2", 3);
        give("(0-7)/2", -3);
        give("7/(0-2)", -3);
        give("(0-7)/(0-2)", 3);
        give("1/2", 0);
        give("(0-1)/2", 0);
        give("0/5", 0);
        give("9999/9999", 1);
        give("9998/9999", 0);
        give("(" + LEAST + ")/2", MIN / 2);
    }

    /** "/ is 0 by 0" */
    private static void p24aQuotientBy0Is0() {
        give("7/0", 0);
        give("0/0", 0);
        give("(0-7)/0", 0);
        give("(" + LEAST + ")/0", 0);
        give("7/(s-2)", 0);
        give("7/0+5", 5);
        give("7/0/0", 0);
        give("7/0*3", 0);
        give("7/!1", 0);
        give("7/(1<1)", 0);
        give("1|7/0", 1);
        give("0&7/0", 0);
    }

    /** "tests .. give 1 or 0" */
    private static void p24testsAtTheBound() {
        int[][] due = {{1, 2, 1, 0, 0}, {2, 2, 0, 1, 0}, {3, 2, 0, 0, 1}, {0, 9999, 1, 0, 0}, {9999, 9999, 0, 1, 0}};
        for (int[] d : due) {
            give(d[0] + "<" + d[1], d[2]);
            give(d[0] + "=" + d[1], d[3]);
            give(d[0] + ">" + d[1], d[4]);
        }
        give(LEAST + "<" + MOST, 1);
        give(LEAST + ">" + MOST, 0);
        give("0-1<0", 1);
        give("0-1>0", 0);
    }

    /** "& | ! give 1 or 0 (what is not 0 is true; both sides are worked out)" */
    private static void p24whatIsNot0IsTrue() {
        String[] truths = {"1", "2", "9999", "(0-1)", "(" + LEAST + ")", MOST};
        for (String t : truths) {
            give("!" + t, 0);
            give(t + "&1", 1);
            give("1&" + t, 1);
            give(t + "&0", 0);
            give("0&" + t, 0);
            give(t + "|0", 1);
            give("0|" + t, 1);
            give(t + "|" + t, 1);
        }
        give("!0", 1);
        give("0&0", 0);
        give("0|0", 0);
        give("1|1", 1);
        give("2&4", 1);
        give("2|4", 1);
        give("!!0", 0);
        give("!!9", 1);
        // Where a single one stands, it is itself.
        give("7", 7);
        give("(7)", 7);
        give("0-7", -7);
    }

    /** "E, the loosest first: OR .. AND .. TEST .. SUM .. TERM .. PIECE" */
    private static void p24theLoosestFirst() {
        give("1|0&0", 1);
        give("0&0|1", 1);
        give("0&(0|1)", 0);
        give("2&1<0", 0);
        give("(2&1)<2", 1);
        give("1<0&2", 0);
        give("1<0|2", 1);
        give("1<1+1", 1);
        give("1+1<1", 0);
        give("1+(1<1)", 1);
        give("1+2*3", 7);
        give("2*3+1", 7);
        give("10-6/2", 7);
        give("!1+1", 1);
        give("!(1+1)", 0);
        give("!0*5", 5);
        give("5*!0", 5);
        give("!2=2", 0);
        give("!(2=2)", 0);
        give("!2<1", 1);
    }

    private static void p24fromLeftToRight() {
        give("9-3-2", 4);
        give("9-(3-2)", 8);
        give("9-3+2", 8);
        give("100/10/5", 2);
        give("100/(10/5)", 50);
        give("7/2*2", 6);
        give("7*2/2", 7);
        give("1&1&0&1", 0);
        give("0|0|1|0", 1);
    }

    /** "of ask o ODDS, w WIT, t TIMES, n how many SAT; of fee s SENT, f FAILED; of fine o ODDS, w WIT" */
    private static void p24whatNamesTell() {
        give("s*10+f", 23);
        TwelveShort x = new TwelveShort();
        for (int i = 0; i < 10; i++) {
            x.person(0, 40 + i, 0, 20 + i);
        }
        x.rule(0, 0);
        String[] names = {"o", "w", "t", "n"};
        int[] sets = {0b1, 0b111, 1023};
        int[] due = {49 - 2 + 2, 29, 1, 10};
        for (int set : sets) {
            x.sits(set);
        }
        for (int i = 0; i < 4; i++) {
            Due.text(x, "ask " + names[i]);
            Due.is("3: ask " + names[i] + " of the last", x.told(9, 5), due[i]);
        }
        x.set(9, 4, 9999);
        Due.text(x, "ask t-9950");
        Due.is("3: TIMES 9999", x.told(9, 5), 49);
        Due.text(x, "fine o*100+w");
        Due.is("21: of the last", x.fine(9), 4929);
    }

    /** "1 how many NUMBERS and NAMES it has" */
    private static void p25howManyNumbersAndNames() {
        TwelveShort x = new TwelveShort();
        String[] texts = {"fee 1", "fee s", "fee s+s", "fee s*1", "fee !!1", "fee ((1))", "fee 1<2&3<4|5", "fee s" + "+s".repeat(45),
            "fee 1234+1", "ask o+w+t+n", "fine o+w+0", "fee(s)"};
        int[] due = {1, 1, 2, 2, 1, 1, 5, 46, 2, 4, 3, 1};
        for (int i = 0; i < texts.length; i++) {
            Due.is("24: " + texts[i], Due.text(x, texts[i]), i);
        }
        for (int i = 0; i < texts.length; i++) {
            Due.is("25: " + texts[i], x.textTold(i, 1), due[i]);
        }
        Due.is("25: behind the last", x.textTold(texts.length, 1), TwelveShort.BAD);
        Due.is("25: ahead of the first", x.textTold(-1, 1), TwelveShort.BAD);
    }

    /** "A call that is refused .. changes nothing (but the tape ..)" */
    private static void p25nothingIsLeftOfAFault() {
        TwelveShort x = new TwelveShort();
        for (int again = 0; again < 8; again++) {
            Due.is("24: a FAULT at the end", Due.text(x, "fee 1" + "+1".repeat(45) + "+"), -196);
        }
        Due.is("24: a right one", Due.text(x, "fee 7-(2-s)"), 0);
        Due.is("20: what it gives", x.fee(), 5);
        Due.is("25: NUMBERS and NAMES", x.textTold(0, 1), 3);
        Due.is("25: KEY", x.textTold(0, 0), 1);
        x.keep();
        for (int again = 0; again < 8; again++) {
            Due.is("24: another", Due.text(x, "ask 1" + "+1".repeat(45)), 1);
            Due.is("25: NUMBERS and NAMES", x.textTold(1, 1), 46);
            x.back();
        }
        Due.is("24: a right one in its place", Due.text(x, "fee 9-(2-s)"), 1);
        Due.is("20: what it gives", x.fee(), 7);
        Due.is("25: NUMBERS and NAMES", x.textTold(1, 1), 3);
        Due.is("25: KEY", x.textTold(1, 0), 1);
        Due.is("26: of ask none counts", x.why(0), TwelveShort.NONE);
    }

    /** "what 0 KEY (0 ask, 1 fee, 2 fine)" */
    private static void p25keysOfTexts() {
        TwelveShort x = new TwelveShort();
        String[] keys = {"ask", "fee", "fine"};
        for (int i = 0; i < 14; i++) {
            Due.is("25: not yet", x.textTold(i, 0), TwelveShort.BAD);
            Due.text(x, keys[i * i % 3] + " " + i);
            Due.is("25: KEY", x.textTold(i, 0), i * i % 3);
        }
        Due.text(x, "fine 1");
        Due.is("25: the fifteenth", x.textTold(14, 0), TwelveShort.BAD);
        Due.is("25: the fourteenth", x.textTold(13, 0), 13 * 13 % 3);
        Due.is("25: what 2", x.textTold(13, 2), TwelveShort.BAD);
        Due.is("25: what -1", x.textTold(13, -1), TwelveShort.BAD);
    }

    /** "Of a KEY that TEXT counts that was told last."; "BAD; NONE." */
    private static void p26theOneToldLastCounts() {
        TwelveShort x = new TwelveShort();
        String[] keys = {"ask", "fee", "fine"};
        int[] last = {TwelveShort.NONE, TwelveShort.NONE, TwelveShort.NONE};
        int[] told = {2, 2, 0, 1, 0, 2, 1, 1, 0, 2, 0, 1, 2, 0};
        for (int i = 0; i < 14; i++) {
            for (int key = 0; key < 3; key++) {
                Due.is("26: why(" + key + ") behind " + i, x.why(key), last[key]);
            }
            Due.text(x, keys[told[i]] + " " + i);
            last[told[i]] = i;
            // What is no TEXT does not count.
            Due.text(x, keys[told[i]] + " 1 1");
        }
        for (int key = 0; key < 3; key++) {
            Due.text(x, keys[key] + " 1");
            Due.is("26: why(" + key + "), FULL", x.why(key), last[key]);
        }
        Due.is("26: why(-1)", x.why(-1), TwelveShort.BAD);
        Due.is("26: why(3)", x.why(3), TwelveShort.BAD);
    }
}
