/** Boundaries of the law in the terms' part 1, and of promises 7 and 8. */
final class LawEdges {
    /** What a text answers that is the law. */
    private static final int FINE = 1;
    private static Edges e;

    private LawEdges() { }

    static void hold(Edges edges) {
        e = edges;
        e.of(Edges.TERMS);
        texts();
        lines();
        signs();
        operands();
        names();
        opened();
        values();
        faults();
        held();
        e.of(7);
        feeding();
        e.of(8);
        laws();
    }

    /** law() of a text on a new object. */
    private static int law(String text) {
        return Due.law(new WinterShed(), text);
    }

    /** The fault's place, told as law() tells it. */
    private static int at(int place) {
        return -100 - place;
    }

    /** By how much a text makes 500 hours more, if nothing is let out. */
    private static int more(String text) {
        WinterShed x = new WinterShed();
        x.mend(0, 5, 500);
        x.mend(0, 6, 999);
        return Due.law(x, text) == FINE ? x.idle(1) - 500 : -1000;
    }

    private static void texts() {
        e.test("THE LAW is a TEXT by THE TAPE (at most 120 bytes):", x -> {
            String longest = "1+".repeat(59) + "10";
            e.is(longest.length(), 120);
            for (int i = 0; i < 120; i++) {
                e.is(x.feed(longest.charAt(i)), i + 1);
            }
            e.is(x.feed('0'), Edges.FULL);
            e.is(x.law(), FINE);
            e.is(x.idle(1), 40 + 69);
        });
        e.test("THE LAW is a TEXT by THE TAPE (at most 120 bytes):", x -> {
            e.is(more("!1" + "+1".repeat(59)), 59);
            e.is(more("0?!1" + "+1".repeat(58)), 0);
            e.is(more("1?!1" + "+1".repeat(58)), 58);
            e.is(more("0?1;".repeat(29) + "7"), 7);
            e.is(more("0;".repeat(59) + "1"), 0);
            e.is(more("0+0*".repeat(29) + "0+7"), 7);
            e.is(more("1|0&1=0+1*".repeat(11) + "1"), 1);
            e.is(more("((((((1))))))+".repeat(8) + "0"), 8);
            e.is(more("!-".repeat(3) + "9+" + "c-c+".repeat(26) + "7"), 7);
        });
    }

    private static void lines() {
        e.test("LINES, one or more, parted by ; .", x -> {
            e.is(law(""), at(0));
            e.is(law(";"), at(0));
            e.is(law("1;"), at(2));
            e.is(law(";1"), at(0));
            e.is(law("1;;2"), at(2));
            e.is(law("1"), FINE);
            e.is(law("1;2"), FINE);
            e.is(law("1,2"), at(1));
            e.is(law("(1;2)"), at(2));
        });
        e.test("LINE: E, or E ? E (what counts if the first is not 0).", x -> {
            e.is(law("1?2?3"), at(3));
            e.is(law("?1"), at(0));
            e.is(law("1?"), at(2));
            e.is(law("(1?2)"), at(2));
            e.is(law("1??2"), at(2));
            e.is(law("1?2;3?4"), FINE);
            e.is(more("1?7"), 7);
            e.is(more("2?7"), 7);
            e.is(more("-1?7"), 7);
            e.is(more("0?7"), 0);
            e.is(more("0?7;1?8"), 8);
            e.is(more("0|1?0|2"), 1);
            e.is(more("0&1|1?2&0|0"), 0);
            e.is(more("1<2?3+4*2"), 11);
        });
        e.test("The first LINE without a first E, or whose first E is not 0, counts;", x -> {
            e.is(more("5;6"), 5);
            e.is(more("0;6"), 0);
            e.is(more("0?5;6"), 6);
            e.is(more("0?5;3?7;8"), 7);
            e.is(more("-3?7;8"), 7);
            e.is(more("1?0;8"), 0);
            e.is(more("0?5;0?6;0?7;9;1?2"), 9);
        });
        e.test("none: 0.", x -> {
            e.is(more("0?5"), 0);
            e.is(more("0?5;0?6"), 0);
            e.is(more("1-1?5;c<0?6"), 0);
        });
    }

    private static void signs() {
        e.test("E = A { | A }.", x -> {
            e.is(more("0|0|1"), 1);
            e.is(more("0|0"), 0);
            e.is(more("1|0&0"), 1);
            e.is(law("1|"), at(2));
            e.is(law("|1"), at(0));
            e.is(law("1||1"), at(2));
        });
        e.test("A = B { & B }.", x -> {
            e.is(more("1&1&0"), 0);
            e.is(more("1&1&1"), 1);
            e.is(more("0&0|1"), 1);
            e.is(more("2=1&0"), 0);
            e.is(more("0&1=0"), 0);
            e.is(law("1&"), at(2));
            e.is(law("&1"), at(0));
            e.is(law("1&&1"), at(2));
        });
        e.test("B = S, or S < S, S = S, S > S.", x -> {
            e.is(law("1<2<3"), at(3));
            e.is(law("1=1=1"), at(3));
            e.is(law("3>2>1"), at(3));
            e.is(law("1<2=1"), at(3));
            e.is(law("1==1"), at(2));
            e.is(law("1<=2"), at(2));
            e.is(law("1<"), at(2));
            e.is(law(">1"), at(0));
            e.is(law("1<2|3<4"), FINE);
            e.is(more("(1<2)=1"), 1);
            e.is(more("1<(2<3)"), 0);
            e.is(more("1+1<3"), 1);
            e.is(more("3<1+1"), 0);
        });
        e.test("S = P { + P, - P }.", x -> {
            e.is(more("9-3-2"), 4);
            e.is(more("9-3+2"), 8);
            e.is(more("1+-2"), -1);
            e.is(more("1--2"), 3);
            e.is(law("1++2"), at(2));
            e.is(law("+1"), at(0));
            e.is(law("1-"), at(2));
        });
        e.test("P = O { * O, / O, % O }.", x -> {
            e.is(more("20/2*5"), 50);
            e.is(more("20%6*2"), 4);
            e.is(more("2*20%6"), 4);
            e.is(more("80/4/2"), 10);
            e.is(more("2+3*4"), 14);
            e.is(more("9-8/4"), 7);
            e.is(more("2*-3"), -6);
            e.is(law("*1"), at(0));
            e.is(law("2**2"), at(2));
            e.is(law("2/"), at(2));
            e.is(law("2%%2"), at(2));
        });
    }

    private static void operands() {
        e.test("O = a number (1 to 4 digits),", x -> {
            e.is(more("9"), 9);
            e.is(more("0007"), 7);
            e.is(more("9999-9989"), 10);
            e.is(more("(1000=999+1)*5"), 5);
            e.is(law("9999"), FINE);
            e.is(law("0000"), FINE);
            e.is(law("12345"), at(4));
            e.is(law("00001"), at(4));
            e.is(law("1+12345"), at(6));
            e.is(law("1234c"), at(4));
            e.is(law("1c"), at(1));
        });
        e.test("a NAME,", x -> {
            for (int letter = 0; letter < 256; letter++) {
                WinterShed one = new WinterShed();
                one.feed(letter);
                boolean whole = letter < 128 && "0123456789clgkdb".indexOf(letter) >= 0;
                boolean begun = letter < 128 && "(!-".indexOf(letter) >= 0;
                e.is(one.law(), whole ? FINE : begun ? at(1) : at(0));
            }
            e.is(law("cl"), at(1));
            e.is(law("c1"), at(1));
        });
        e.test("! O, - O, ( E ).", x -> {
            e.is(more("!0"), 1);
            e.is(more("--5"), 5);
            e.is(more("!-5"), 0);
            e.is(more("-!0"), -1);
            e.is(more("-(2+3)"), -5);
            e.is(more("-2*3"), -6);
            e.is(more("-2-3"), -5);
            e.is(more("-7+9"), 2);
            e.is(more("!0*5"), 5);
            e.is(more("!1-1"), -1);
            e.is(more("!1=0"), 1);
            e.is(more("(2+3)*4"), 20);
            e.is(more("9-(3-2)"), 8);
            e.is(more("(1|0)&0"), 0);
            e.is(law("()"), at(1));
            e.is(law("(1"), at(2));
            e.is(law("1)"), at(1));
            e.is(law("!"), at(1));
            e.is(law("-"), at(1));
            e.is(law("1!"), at(1));
            e.is(law("1(2)"), at(1));
        });
        e.test("No blanks.", x -> {
            e.is(law(" 1"), at(0));
            e.is(law("1 "), at(1));
            e.is(law("1 +2"), at(1));
            e.is(law("1+ 2"), at(2));
            e.is(law("1\t"), at(1));
            e.is(law("1;\n2"), at(2));
        });
    }

    private static void names() {
        e.test("NAMES: c COLD as a day ends (what was let out that day is gone),", x -> {
            Due.law(x, "(c=34)*9+(c=40)*30");
            Due.fill(x, 0, 0, 6);
            e.is(x.cold(0, 1), 34 + 9);
            e.is(x.idle(1), 40 + 30);
            e.is(x.pass(6), 43);
            Due.law(x, "(c=0)*9");
            x.mend(0, 5, 24);
            e.is(x.pass(24), 9);
        });
        e.test("l how many hours were let out that day,", x -> {
            Due.law(x, "(l=5)*9+(l=0)*7");
            x.mend(0, 5, 5);
            Due.fill(x, 0, 0, 20, 0);
            e.is(x.cold(0, 1), 9);
            e.is(x.cold(0, 2), 16);
            x.mend(0, 5, 300);
            e.is(x.cold(0, 0), 0);
            e.is(x.cold(0, 1), 7);
        });
        e.test("g GROWS, k LEAK,", x -> {
            x.mend(0, 7, 6);
            x.mend(0, 8, 3);
            Due.law(x, "g*10+k");
            e.is(x.idle(1), 40 + 63);
            x.mend(0, 7, 0);
            x.mend(0, 8, 9);
            e.is(x.idle(1), 49);
        });
        e.test("d the DAY,", x -> {
            Due.law(x, "d");
            e.is(x.idle(1), 40);
            e.is(x.idle(2), 41);
            x.mend(0, 9, 28);
            e.is(x.idle(29), 40 + 28);
            e.is(x.idle(30), 40 + 28 + 29);
            e.is(x.pass(0), 68);
        });
        e.test("b BEARS.", x -> {
            Due.law(x, "(b=200)*5+(b=999)*6");
            e.is(x.idle(1), 45);
            x.mend(0, 6, 999);
            e.is(x.idle(1), 46);
        });
    }

    private static void opened() {
        e.test("At most 6 of ( ! - ahead of an O are open at once.", x -> {
            e.is(more("((((((7))))))"), 7);
            e.is(law("(((((((7)))))))"), at(6));
            e.is(more("!!!!!!5"), 1);
            e.is(law("!!!!!!!5"), at(6));
            e.is(more("------5"), 5);
            e.is(law("-------5"), at(6));
            e.is(more("(-(!(-0)))"), -1);
            e.is(law("(-(!(-!0)))"), at(6));
            e.is(law("(-(!(-(0))))"), at(6));
            e.is(law("(-(!(--0)))"), at(6));
        });
        e.test("At most 6 of ( ! - ahead of an O are open at once.", x -> {
            e.is(more("((((((1))))))+((((((1))))))"), 2);
            e.is(more("!!!!!!0+!!!!!!0+------3"), 3);
            e.is(more("(((((1+(1)+(1))))))"), 3);
            e.is(more("((((((9-1-1-1))))))"), 6);
            e.is(law("((((((9--1))))))"), at(8));
            e.is(more("(((((9--1)))))"), 10);
            e.is(law("(((((9-(-1))))))"), at(8));
            e.is(more("((((((1)+1)+1)+1)+1)+1)"), 6);
            e.is(law("((((((1)+((1"), at(10));
            e.is(more("((((((1))))))?((((((7))))))"), 7);
            e.is(law("1?(((((((7"), at(8));
            e.is(more("0?1;((((((7))))))"), 7);
        });
    }

    private static void values() {
        e.test("Ints that wrap;", x -> {
            e.is(more("9999*9999*9999%97"), 9999 * 9999 * 9999 % 97);
            e.is(more("9999*9999*9999<0"), 9999 * 9999 * 9999 < 0 ? 1 : 0);
            e.is(more("2048*1024*1024<0"), 1);
            e.is(more("2048*1024*1024-1>0"), 1);
            e.is(more("-2048*1024*1024-1>0"), 1);
            e.is(more("-(2048*1024*1024)<0"), 1);
            e.is(more("2048*1024*1024/-1<0"), 1);
            e.is(more("2048*1024*1024%-1"), 0);
            e.is(more("(2048*1024*1024=-2048*1024*1024)*5"), 5);
            e.is(more("2048*1024*1024<1"), 1);
            e.is(more("2048*1024*2048"), 0);
        });
        e.test("/ and % toward 0,", x -> {
            e.is(more("7/2"), 3);
            e.is(more("-7/2"), -3);
            e.is(more("7/-2"), -3);
            e.is(more("-7/-2"), 3);
            e.is(more("-1/2"), 0);
            e.is(more("-7%3"), -1);
            e.is(more("7%-3"), 1);
            e.is(more("-7%-3"), -1);
        });
        e.test("by 0 they give 0;", x -> {
            e.is(more("7/0"), 0);
            e.is(more("7%0"), 0);
            e.is(more("0/0"), 0);
            e.is(more("0%0"), 0);
            e.is(more("5+7/(c-c)"), 5);
            e.is(more("5+7%l"), 5);
            e.is(more("-7/0"), 0);
        });
        e.test("| & < = > ! give 1, 0;", x -> {
            int[][] due = {{4, 2, 1, 1, 0, 0, 1}, {4, 0, 1, 0, 0, 0, 1}, {0, 4, 1, 0, 1, 0, 0}, {0, 0, 0, 0, 0, 1, 0},
                {3, 3, 1, 1, 0, 1, 0}};
            for (int[] one : due) {
                for (int s = 0; s < 5; s++) {
                    e.is(more(one[0] + "" + "|&<=>".charAt(s) + one[1]), one[2 + s]);
                }
            }
            e.is(more("-4|0"), 1);
            e.is(more("-4&-2"), 1);
            e.is(more("-1<0"), 1);
            e.is(more("-1>0"), 0);
            e.is(more("!7"), 0);
            e.is(more("!0"), 1);
            e.is(more("!-1"), 0);
            e.is(more("!!7"), 1);
        });
        e.test("all is worked out.", x -> {
            e.is(more("1|1/0"), 1);
            e.is(more("0&5%0"), 0);
            e.is(more("(1|(5/0))*8"), 8);
            e.is(more("0?1/0;1|1/0"), 1);
            e.is(law("1|x"), at(2));
            e.is(law("1;0&x"), at(4));
        });
    }

    private static void faults() {
        e.test("FAULT: the place (from 0) of the first byte with which no TEXT goes on;", x -> {
            e.is(law("x"), at(0));
            e.is(law("1x"), at(1));
            e.is(law("1+x+y"), at(2));
            e.is(law("1?2;3?)"), at(6));
            e.is(law("((c+1)*2"), at(8));
            e.is(law("((c+1)*2;"), at(8));
            e.is(law("1+".repeat(59) + "1x"), at(119));
            e.is(law("1+".repeat(59) + "++"), at(118));
        });
        e.test("the length, if it ends too early.", x -> {
            e.is(law(""), at(0));
            e.is(law("1+"), at(2));
            e.is(law("(c"), at(2));
            e.is(law("1?"), at(2));
            e.is(law("0?1;"), at(4));
            e.is(law("!"), at(1));
            e.is(law("((((((1"), at(7));
            e.is(law("1+".repeat(60)), at(120));
            e.is(law("1;".repeat(60)), at(120));
        });
    }

    private static void held() {
        e.test("It gives by how much COLD is more the next day (held within -99 .. 99;", x -> {
            int[][] due = {{98, 98}, {99, 99}, {100, 99}, {9999, 99}, {0, 0}};
            for (int[] one : due) {
                e.is(more("" + one[0]), one[1]);
                e.is(more("-" + one[0]), -one[1]);
            }
            e.is(more("2048*1024*1024"), -99);
            e.is(more("2048*1024*1024-1"), 99);
        });
        e.test("COLD within 0 .. 999).", x -> {
            Due.law(x, "c<500?-99;40");
            x.mend(0, 6, 999);
            int[][] due = {{958, 998}, {959, 999}, {960, 999}, {999, 999}, {100, 1}, {99, 0}, {98, 0}, {0, 0}};
            for (int[] one : due) {
                x.mend(0, 5, one[0]);
                e.is(x.idle(1), one[1]);
            }
            x.mend(0, 5, 960);
            e.is(x.pass(0), 999);
            x.mend(0, 5, 98);
            e.is(x.pass(1), 0);
        });
        e.test("Without a text: g, if l is 0;", x -> {
            x.mend(0, 7, 4);
            Due.fill(x, 0, 0, 0, 1, 24, 0);
            e.is(x.cold(0, 1), 44);
            e.is(x.cold(0, 2), 43);
            e.is(x.cold(0, 3), 19);
            e.is(x.cold(0, 4), 23);
        });
        e.test("Without a text: g, if l is 0;", x -> {
            x.mend(0, 7, 4);
            x.mend(0, 5, 0);
            Due.fill(x, 0, 0, 5);
            e.is(x.cold(0, 1), 4);
            x.mend(0, 7, 9);
            x.mend(0, 5, 995);
            x.mend(0, 6, 999);
            e.is(x.idle(1), 999);
        });
        e.test("less k by 2 (cut).", x -> {
            int[] less = {0, 0, 1, 1, 2, 2, 3, 3, 4, 4};
            x.mend(0, 7, 0);
            Due.fill(x, 0, 0, 3);
            for (int k = 0; k <= 9; k++) {
                x.mend(0, 8, k);
                e.is(x.idle(1), 40 - less[k]);
                e.is(x.cold(0, 1), 37 - less[k]);
            }
            x.mend(0, 5, 3);
            e.is(x.idle(1), 0);
            e.is(x.cold(0, 1), 0);
            x.mend(0, 7, 2);
            e.is(x.idle(1), 1);
        });
    }

    private static void feeding() {
        e.test("A byte (0 .. 255) comes to THE TAPE: how many it has.", x -> {
            e.is(x.feed(-1), Edges.BAD);
            e.is(x.feed(256), Edges.BAD);
            e.is(x.feed(Integer.MIN_VALUE), Edges.BAD);
            e.is(x.feed(Integer.MAX_VALUE), Edges.BAD);
            e.is(x.count(2), 0);
            e.is(x.feed(0), 1);
            e.is(x.feed(255), 2);
            e.is(x.count(2), 2);
        });
        e.test("FULL (120).", x -> {
            for (int i = 1; i <= 120; i++) {
                e.is(x.feed('1'), i);
            }
            e.is(x.feed('1'), Edges.FULL);
            e.is(x.count(2), 120);
        });
        e.test("BAD, FULL (120).", x -> {
            for (int i = 1; i <= 120; i++) {
                x.feed('1');
            }
            e.is(x.feed(256), Edges.BAD);
            e.is(x.feed(-1), Edges.BAD);
        });
    }

    private static void laws() {
        e.test("THE TAPE becomes THE LAW: 1;", x -> {
            e.is(Due.law(x, "5"), FINE);
            e.is(x.idle(1), 45);
            e.is(Due.law(x, "7"), FINE);
            e.is(x.idle(1), 47);
        });
        e.test("THE TAPE becomes THE LAW: 1;", x -> {
            x.feed('5');
            e.is(x.idle(1), 41);
            e.is(x.law(), FINE);
            x.feed('7');
            e.is(x.idle(1), 45);
        });
        e.test("-100 less its FAULT;", x -> {
            e.is(x.law(), -100);
            e.is(Due.law(x, "+"), -100);
            e.is(Due.law(x, "1+"), -102);
            e.is(Due.law(x, "1+2+3"), FINE);
            e.is(Due.law(x, "1;0?"), -104);
            e.is(x.idle(1), 46);
        });
        e.test("-100 less its FAULT;", x -> {
            e.is(Due.law(x, "9+"), -102);
            e.is(x.idle(1), 41);
            e.is(x.law(), -100);
            e.is(x.idle(1), 41);
        });
        e.test("THE TAPE is empty then.", x -> {
            Due.law(x, "12");
            e.is(x.count(2), 0);
            e.is(x.feed('3'), 1);
            e.is(x.law(), FINE);
            e.is(x.idle(1), 43);
        });
        e.test("THE TAPE is empty then.", x -> {
            e.is(Due.law(x, "1x3"), -101);
            e.is(x.count(2), 0);
            e.is(x.feed('3'), 1);
            e.is(x.law(), FINE);
            e.is(x.idle(1), 43);
        });
    }
}
