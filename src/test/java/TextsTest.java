/** Promises 22 to 26, and what texts give. */
public final class TextsTest {
    public static void main(String[] args) {
        feed();
        trim();
        text();
        faults();
        limits();
        gives();
        laws();
        textTold();
        why();
        Due.finish();
    }

    private static void feed() {
        TwelveShort x = new TwelveShort();
        for (int i = 1; i <= 8; i++) {
            Due.is("22: feed " + i, x.feed(-1, 0, Integer.MIN_VALUE), 12 * i);
        }
        Due.is("22: the ninth", x.feed(0, 0, 0), TwelveShort.FULL);
        Due.is("22: count(6)", x.count(6), 96);
        x.trim(85);
        Due.is("22: above 96", x.feed(0, 0, 0), TwelveShort.FULL);
        Due.is("22: count(6)", x.count(6), 85);
        x.trim(84);
        Due.is("22: up to 96", x.feed(0, 0, 0), 96);
        // "fee 1234+567", the highest byte of each number first.
        x.trim(0);
        x.feed(0x66656520, 0x31323334, 0x2b353637);
        Due.is("22: text", x.text(), 0);
        Due.is("22: fee", x.fee(), 1234 + 567);
    }

    private static void trim() {
        TwelveShort x = new TwelveShort();
        Due.is("23: trim(0)", x.trim(0), 0);
        Due.is("23: trim(1) of none", x.trim(1), TwelveShort.BAD);
        x.feed(1, 2, 3);
        Due.is("23: trim(13)", x.trim(13), TwelveShort.BAD);
        Due.is("23: trim(-1)", x.trim(-1), TwelveShort.BAD);
        Due.is("23: trim(12)", x.trim(12), 12);
        Due.is("23: trim(5)", x.trim(5), 5);
        Due.is("23: trim(6)", x.trim(6), TwelveShort.BAD);
        Due.is("23: count(6)", x.count(6), 5);
    }

    private static void text() {
        TwelveShort x = new TwelveShort();
        Due.is("24: the first", Due.text(x, "ask o"), 0);
        Due.is("24: the tape is used up", x.count(6), 0);
        Due.is("24: a FAULT", Due.text(x, "ask s"), -104);
        Due.is("24: the tape is used up by a FAULT, too", x.count(6), 0);
        for (int i = 1; i < 14; i++) {
            Due.is("24: text " + i, Due.text(x, "fee " + i), i);
        }
        Due.is("24: the fifteenth", Due.text(x, "fee 99"), TwelveShort.FULL);
        Due.is("24: the tape is used up when FULL, too", x.count(6), 0);
        Due.is("24: a FAULT stands ahead of FULL", Due.text(x, "fee 99 9"), -107);
        Due.is("24: fee", x.fee(), 13);
        Due.is("24: count(4)", x.count(4), 14);
    }

    private static void fault(String text, int place) {
        Due.is("24: '" + text + "'", Due.text(new TwelveShort(), text), place < 0 ? 0 : -100 - place);
    }

    private static void faults() {
        fault("", 0);
        fault("   ", 3);
        fault("ask", 3);
        fault("ask  ", 5);
        fault("ask o", -1);
        fault("  ask   o  ", -1);
        fault("as o", 0);
        fault(" asko", 1);
        fault("ASK o", 0);
        fault("fee1", 3);
        fault("fee 1", -1);
        fault("fee(1)", -1);
        fault("fee!1", -1);
        fault("fee 1 2", 6);
        fault("fee 1s", 5);
        fault("fee s1", 5);
        fault("fee ss", 4);
        fault("fee 9999", -1);
        fault("fee 0000", -1);
        fault("fee 00000", 4);
        fault("fee s+", 6);
        fault("fee s+ ", 7);
        fault("fee +s", 4);
        fault("fee -1", 4);
        fault("fee s+*f", 6);
        fault("fee s<f<s", 7);
        fault("fee s<f=s", 7);
        fault("fee s<f&s>f|s=f", -1);
        fault("fee (s<f)<s", -1);
        fault("fee s<(f<s)", -1);
        fault("fee !s<!f", -1);
        fault("fee s<=f", 6);
        fault("fee s||f", 6);
        fault("fee s!f", 5);
        fault("fee ()", 5);
        fault("fee (s", 6);
        fault("fee (s))", 7);
        fault("fee s)", 5);
        fault("fee (s f)", 7);
        fault("fee (s)(f)", 7);
        fault("fee s\t", 5);
        fault("fee\0s", 3);
        fault("fee s" + (char) 233, 5);
        fault("fee fee", 4);
        fault("fee fine", 4);
        fault("ask s", 4);
        fault("ask f", 4);
        fault("fee o", 4);
        fault("fee w", 4);
        fault("fine t", 5);
        fault("fine n", 5);
        fault("fine s", 5);
        fault("ask o+w+t+n", -1);
        fault("fee s+f", -1);
        fault("fine o+w", -1);
        fault("fin o", 0);
        fault("finew", 0);
        fault("xsk o", 0);
        fault("o", 0);
        fault(" (o)", 1);
        fault("12", 0);
        fault("fee sz", 4);
        fault("fee sa", 4);
        fault("fee 1" + (char) ('0' - 1) + "2", -1);
        fault("fee 1:2", 5);
        fault("fee `", 4);
        fault("fee {", 4);
    }

    private static void limits() {
        fault("fee ((((((((s))))))))", -1);
        fault("fee (((((((((s)))))))))", 12);
        fault("fee ((((((((s))))))))+((((((((f))))))))", -1);
        fault("fee ((((((((s)+(f", 17);
        fault("fee ((((((((s)+(f)+((", 20);
        fault("fee !!!!!!!!s", -1);
        fault("fee !!!!!!!!!s", 12);
        fault("fee !!!!!!!!s+!!!!!!!!f", -1);
        fault("fee !(!(!(!(!(!(!(!(s))))))))", -1);
        fault("fee !(!(!(!(!(!(!(!(!s))))))))", 20);
        fault("fee !(!(!(!(!(!(!(!((s))))))))", 20);
        fault("fee !(s+!!!!!!!f)", -1);
        fault("fee !(s+!!!!!!!!f)", 15);
        fault("fee !s+!!!!!!!!f", -1);
        StringBuilder longest = new StringBuilder("ask o");
        while (longest.length() < 95) {
            longest.append("+1");
        }
        fault(longest.toString(), -1);
        fault(longest + "+", 96);
        fault(longest + " ", -1);
    }

    private static void give(String text, int want) {
        TwelveShort x = new TwelveShort();
        x.rule(0, 0);
        x.sits(0);
        x.sits(0);
        x.sits(0);
        x.person(0, 50, 0, 0);
        x.sits(0);
        x.sits(0);
        // s is 2, f is 3.
        Due.is("24: 'fee " + text + "'", Due.text(x, "fee " + text), 0);
        Due.is("20: 'fee " + text + "'", x.fee(), want);
    }

    private static void gives() {
        give("s", 2);
        give("f", 3);
        give("0", 0);
        give("0009", 9);
        give("1+2*3", 7);
        give("2*3+1", 7);
        give("(1+2)*3", 9);
        give("10-3-2", 5);
        give("10-(3-2)", 9);
        give("100/7/2", 7);
        give("7/2*2", 6);
        give("2*7/2", 7);
        give("(0-7)/2", -3);
        give("7/0", 0);
        give("7/(s-2)+1", 1);
        give("s<f", 1);
        give("f<s", 0);
        give("f>s", 1);
        give("s>f", 0);
        give("2<s", 0);
        give("2>s", 0);
        give("s=2", 1);
        give("s=f", 0);
        give("s+1=f", 1);
        give("1<2|0", 1);
        give("5&7", 1);
        give("5|0", 1);
        give("0|0", 0);
        give("0&5|7", 1);
        give("7|5&0", 1);
        give("(7|5)&0", 0);
        give("0-1&1", 1);
        give("!5", 0);
        give("!0", 1);
        give("!!5", 1);
        give("!0+4", 5);
        give("!(0+4)", 0);
        give("!s=f", 0);
        give("4*!0", 4);
        give("1<2&2<3", 1);
        give("9999*9999*9999", 9999 * 9999 * 9999);
        give("(0-2*8192*4096*32)/(0-1)", Integer.MIN_VALUE);
        give("0|0&0<0+0*(0|0&0<0+1*(0|1&0<0+1*(0|1&0<1+0*(0|1&0<0+1*(0|1&0<0+1*(s))))))", 0);
        give("0|1&0<0+1*(0|1&0<0+1*(0|1&0<0+1*(0|1&0<0+1*(0|1&0<0+1*(0|1&0<0+1*(s))))))", 1);
        give("1-(2-(3-(4-(5-(6-(7-(8-9)))))))", 1 - (2 - (3 - (4 - (5 - (6 - (7 - (8 - 9))))))));
    }

    private static void laws() {
        TwelveShort x = new TwelveShort();
        x.person(0, 11, 20, 33);
        x.person(1, 61, 20, 81);
        x.person(4, 61, 20, 81);
        x.set(0, 4, 7);
        x.sits(6);
        // ODDS are 10, 63, 63 now, and two SAT.
        Due.text(x, "ask o");
        Due.is("3: o", x.told(0, 5), 10);
        Due.text(x, "ask w");
        Due.is("3: w", x.told(0, 5), 33);
        Due.text(x, "ask t");
        Due.is("3: t", x.told(0, 5), 7);
        Due.text(x, "ask n");
        Due.is("3: n", x.told(0, 5), 2);
        Due.is("3: n of a LAMPLIGHTER", x.told(2, 5), 4);
        Due.text(x, "ask 999");
        Due.is("3: held within 100", x.told(0, 5), 100);
        Due.is("3: held within 100, a POET", x.told(1, 5), 50);
        Due.is("3: held within 100, a LAMPLIGHTER", x.told(2, 5), 100);
        Due.text(x, "ask 0-5");
        Due.is("3: held within 0", x.told(0, 5), 0);
        Due.is("3: held within 0, a LAMPLIGHTER", x.told(2, 5), 2);
        Due.text(x, "ask 100");
        x.rule(0, 5);
        x.evenings(1);
        Due.is("12: who comes by ask", x.house(3) & 5, 5);
        Due.text(x, "fine w*1000+o");
        Due.is("21: fine(0)", x.fine(0), 33012);
    }

    private static void textTold() {
        TwelveShort x = new TwelveShort();
        Due.is("25: textTold(0, 0) of none", x.textTold(0, 0), TwelveShort.BAD);
        Due.text(x, "fine !(o+w)*3=(12)");
        Due.text(x, "ask 1");
        Due.text(x, "fee s+s+s+s+s+s+s+s+s+s+s+s+s+s+s+s+s+s+s+s+s+s+s+s+s+s+s+s+s+s+s+s+s+s+s+s+s+s+s+s+s+s+s+s+s+s");
        Due.text(x, "fee s+");
        int[][] due = {{2, 4}, {0, 1}, {1, 46}};
        for (int t = 0; t < 3; t++) {
            Due.is("25: textTold(" + t + ", 0)", x.textTold(t, 0), due[t][0]);
            Due.is("25: textTold(" + t + ", 1)", x.textTold(t, 1), due[t][1]);
        }
        Due.is("25: textTold(3, 0)", x.textTold(3, 0), TwelveShort.BAD);
        Due.text(x, "ask 4");
        Due.is("25: nothing is left of a FAULT", x.textTold(3, 1), 1);
        Due.is("25: textTold(4, 0)", x.textTold(4, 0), TwelveShort.BAD);
        Due.is("25: textTold(-1, 0)", x.textTold(-1, 0), TwelveShort.BAD);
        Due.is("25: textTold(0, 2)", x.textTold(0, 2), TwelveShort.BAD);
        Due.is("25: textTold(0, -1)", x.textTold(0, -1), TwelveShort.BAD);
    }

    private static void why() {
        TwelveShort x = new TwelveShort();
        Due.is("26: why(-1)", x.why(-1), TwelveShort.BAD);
        Due.is("26: why(3)", x.why(3), TwelveShort.BAD);
        Due.text(x, "fee 1");
        Due.is("26: why(0)", x.why(0), TwelveShort.NONE);
        Due.is("26: why(1)", x.why(1), 0);
        Due.text(x, "fine 1");
        Due.text(x, "fee 2");
        Due.text(x, "fee 2 2");
        Due.is("26: the last told", x.why(1), 2);
        Due.is("26: why(2)", x.why(2), 1);
    }
}
