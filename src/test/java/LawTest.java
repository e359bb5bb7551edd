import java.util.Random;

/** Promises 7 (feed) and 8 (law), and what THE LAW does to COLD. */
public final class LawTest {
    private static final Due DUE = new Due("law");

    public static void main(String[] args) {
        feeds();
        faults();
        values();
        faultsByGrammar();
        valuesByGrammar();
        DUE.end();
    }

    private static void feeds() {
        WinterShed x = new WinterShed();
        DUE.is("feed(-1)", x.feed(-1), -1);
        DUE.is("feed(256)", x.feed(256), -1);
        DUE.is("law() of nothing", x.law(), -100);
        DUE.is("feed(255)", x.feed(255), 1);
        DUE.is("count(2)", x.count(2), 1);
        DUE.is("law() of byte 255", x.law(), -100);
        DUE.is("count(2) behind law()", x.count(2), 0);
        for (int i = 1; i <= 120; i++) {
            DUE.is("feed " + i, x.feed(i % 2 == 1 ? '1' : '+'), i);
        }
        DUE.is("feed 121", x.feed('1'), -3);
        DUE.is("feed(256) when full", x.feed(256), -1);
        DUE.is("count(2) when full", x.count(2), 120);
        DUE.is("law() that ends with +", x.law(), -220);
        DUE.is("count(2) behind a fault", x.count(2), 0);
        String longest = "1+".repeat(59) + "10";
        DUE.is("law() of 120 bytes", Due.law(x, longest), 1);
        DUE.is("idle(1) by 69", x.idle(1), 109);
    }

    private static void faultIs(String text, int fault) {
        WinterShed x = new WinterShed();
        DUE.is("law() of " + text, Due.law(x, text), fault < 0 ? 1 : -100 - fault);
        DUE.is("grammar of " + text, LawOracle.fault(text), fault);
    }

    private static void faults() {
        faultIs("1", -1);
        faultIs("9999", -1);
        faultIs("12345", 4);
        faultIs("c+l*g-k/d%b", -1);
        faultIs("a", 0);
        faultIs("1 +2", 1);
        faultIs("1<2<3", 3);
        faultIs("(1<2)<3", -1);
        faultIs("1?2?3", 3);
        faultIs("1?2;3", -1);
        faultIs("1;", 2);
        faultIs(";1", 0);
        faultIs("1?", 2);
        faultIs("(1?2)", 2);
        faultIs("(1;2)", 2);
        faultIs("(1", 2);
        faultIs("1)", 1);
        faultIs("()", 1);
        faultIs("1--2", -1);
        faultIs("1++2", 2);
        faultIs("!!!!!!1", -1);
        faultIs("!!!!!!!1", 6);
        faultIs("((((((1))))))", -1);
        faultIs("(((((((", 6);
        faultIs("!(-(!(1)))", -1);
        faultIs("!(-(!((1))))", 6);
        faultIs("((((((1-1))))))-(-1)", -1);
        faultIs("((((((1--1", 8);
        faultIs("1|2&3<4+5*6", -1);
        faultIs("c l", 1);
    }

    private static void gives(String text, int more) {
        WinterShed x = new WinterShed();
        DUE.is("law() of " + text, Due.law(x, text), 1);
        DUE.is("idle(1) by " + text, x.idle(1), 40 + more);
    }

    private static void values() {
        gives("7", 7);
        gives("-7", -7);
        gives("500", 99);
        gives("-5000", -40);
        gives("7/0", 0);
        gives("7%0", 0);
        gives("-7/2", -3);
        gives("-7%2", -1);
        gives("5|0", 1);
        gives("5&3", 1);
        gives("5", 5);
        gives("!5", 0);
        gives("!!5", 1);
        gives("2+3*4", 14);
        gives("9-3-2", 4);
        gives("2<3", 1);
        gives("3<2|4=4", 1);
        gives("0?5;0?6", 0);
        gives("0?5;1?6;7", 6);
        gives("0?5;0?6;7", 7);
        gives("c", 40);
        gives("b/10", 20);
        gives("d+g+k+l", 1);
        gives("(9999*9999*9999)<0", (9999 * 9999 * 9999) < 0 ? 1 : 0);
        namesOfADayThatLets();
        aFaultKeepsTheOldLaw();
        untold();
    }

    private static void namesOfADayThatLets() {
        WinterShed x = new WinterShed();
        Due.law(x, "(c=34)*10+(l=6)*20+(d=0)*40");
        Due.fill(x, 0, 0, 6);
        DUE.is("cold(0, 1): c is without what was let out", x.cold(0, 1), 34 + 70);
        x.mend(0, 9, 28);
        Due.law(x, "d");
        DUE.is("idle(30): d is the day that ends", x.idle(30), 40 + 28 + 29);
    }

    private static void aFaultKeepsTheOldLaw() {
        WinterShed x = new WinterShed();
        Due.law(x, "5");
        DUE.is("law() with a fault", Due.law(x, "6+"), -102);
        DUE.is("idle(1): the old law stays", x.idle(1), 45);
        DUE.is("law() anew", Due.law(x, "7"), 1);
        DUE.is("idle(1): the new law", x.idle(1), 47);
    }

    private static void untold() {
        WinterShed x = new WinterShed();
        x.mend(0, 7, 4);
        x.mend(0, 8, 3);
        Due.fill(x, 0, 0, 1, 0);
        DUE.is("cold(0, 1) without a text", x.cold(0, 1), 38);
        DUE.is("cold(0, 2) without a text", x.cold(0, 2), 41);
        x.mend(0, 5, 999);
        x.mend(0, 6, 999);
        DUE.is("idle(1): 999 at most", x.idle(1), 999);
        x.mend(0, 5, 0);
        x.mend(0, 7, 0);
        DUE.is("idle(1): 0 at least", x.idle(1), 0);
    }

    private static String random(Random r, int most) {
        String letters = "1234clgkdb|&<=>+-*/%!((()))?;x";
        StringBuilder text = new StringBuilder();
        int n = r.nextInt(most + 1);
        for (int i = 0; i < n; i++) {
            text.append(letters.charAt(r.nextInt(letters.length())));
        }
        return text.toString();
    }

    private static void faultsByGrammar() {
        Random r = new Random(7);
        for (int i = 0; i < 4000; i++) {
            String text = i % 2 == 0 ? random(r, 9) : spoiled(r);
            int fault = LawOracle.fault(text);
            DUE.is("law() of " + text, Due.law(new WinterShed(), text), fault < 0 ? 1 : -100 - fault);
        }
    }

    private static String spoiled(Random r) {
        StringBuilder text = new StringBuilder(line(r, 2));
        if (text.length() > 24) {
            text.setLength(24);
        }
        text.setCharAt(r.nextInt(text.length()), "1c(!-)<?;+".charAt(r.nextInt(10)));
        return text.toString();
    }

    private static String line(Random r, int depth) {
        String e = expression(r, depth);
        return r.nextInt(3) == 0 ? e + "?" + expression(r, depth) : e;
    }

    private static String expression(Random r, int depth) {
        int pick = depth <= 0 ? r.nextInt(2) : r.nextInt(8);
        switch (pick) {
            case 0: return String.valueOf(r.nextInt(r.nextBoolean() ? 10 : 10000));
            case 1: return String.valueOf("clgkdb".charAt(r.nextInt(6)));
            case 2: return "!" + "(" + expression(r, depth - 1) + ")";
            case 3: return "-" + "(" + expression(r, depth - 1) + ")";
            case 4: return "(" + expression(r, depth - 1) + ")";
            default:
                char sign = "|&<=>+-*/%".charAt(r.nextInt(10));
                return expression(r, depth - 1) + sign + expression(r, depth - 1);
        }
    }

    private static void valuesByGrammar() {
        Random r = new Random(11);
        for (int i = 0; i < 3000; i++) {
            String text = line(r, 3) + ";" + line(r, 2);
            if (text.length() > 60 || LawOracle.fault(text) >= 0) {
                continue;
            }
            int[] names = {r.nextInt(200), r.nextInt(25), r.nextInt(10), r.nextInt(10), r.nextInt(29), 500 + r.nextInt(400)};
            WinterShed x = new WinterShed();
            x.mend(0, 5, names[0] + names[1]);
            x.mend(0, 6, names[5]);
            x.mend(0, 7, names[2]);
            x.mend(0, 8, names[3]);
            x.mend(0, 9, names[4]);
            Due.law(x, text);
            Due.fill(x, 0, 0, names[1]);
            int more = Math.max(-99, Math.min(99, LawOracle.value(text, names)));
            int then = Math.max(0, Math.min(999, names[0] + more));
            then = then > names[5] ? 0 : then;
            DUE.is("cold by " + text, x.cold(0, names[4] + 1), then);
        }
    }
}
