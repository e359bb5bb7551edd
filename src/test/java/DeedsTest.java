/** Promises 25 to 32: pass, bring, boards, led, image, back, undo, redo. */
public final class DeedsTest {
    private static final Due DUE = new Due("deeds");

    public static void main(String[] args) {
        passing();
        passingUnderBoardsThatGive();
        bringing();
        images();
        undoing();
        deedsAreNoChanges();
        fortyChanges();
        DUE.end();
    }

    private static void passing() {
        WinterShed x = new WinterShed();
        x.farm(2);
        x.farm(3);
        x.want(0, 5);
        x.want(0, 1);
        DUE.is("pass(-1)", x.pass(-1), -1);
        DUE.is("pass(25)", x.pass(25), -1);
        DUE.is("pass(6)", x.pass(6), 34);
        DUE.is("of(0, 9)", x.of(0, 9), 1);
        DUE.is("pass(24)", x.pass(24), 10);
        DUE.is("pass(11): there is not so much", x.pass(11), -2);
        DUE.is("of(0, 9): nothing changes", x.of(0, 9), 2);
        DUE.is("pass(10)", x.pass(10), 0);
        DUE.is("pass(0)", x.pass(0), 1);
        int[] led = {4, 40, 20, 6 * 3 + 34 * 5, 0};
        for (int what = 0; what < 5; what++) {
            DUE.is("led(" + what + ")", x.led(what), led[what]);
        }
        DUE.is("led(-1)", x.led(-1), -1);
        DUE.is("led(5)", x.led(5), -1);
        x.mend(0, 9, 28);
        DUE.is("pass on day 28", x.pass(0), 2);
        DUE.is("pass on day 29", x.pass(0), -5);
        DUE.is("pass(3) on day 29: STATE is ahead of NOT", x.pass(3), -5);
        DUE.is("pass(25) on day 29: BAD is ahead of STATE", x.pass(25), -1);
        DUE.is("led(0)", x.led(0), 5);
    }

    private static void passingUnderBoardsThatGive() {
        WinterShed x = new WinterShed();
        x.mend(0, 6, 40);
        DUE.is("pass to above BEARS", x.pass(0), 41);
        DUE.is("led(4): not yet", x.led(4), 0);
        DUE.is("pass(1): all is out", x.pass(1), -2);
        DUE.is("led(4): nothing changes", x.led(4), 0);
        DUE.is("of(0, 5): nothing changes", x.of(0, 5), 41);
        DUE.is("pass(0): the BOARDS GIVE", x.pass(0), 1);
        DUE.is("led(4)", x.led(4), 1);
        DUE.is("led(0)", x.led(0), 2);
        DUE.is("pass(1)", x.pass(1), 0);
        DUE.is("led(4) still", x.led(4), 1);
        Due.law(x, "d*10");
        DUE.is("pass by the law: d is the day that ends", x.pass(0), 30);
    }

    private static void bringing() {
        WinterShed x = new WinterShed();
        DUE.is("bring(0)", x.bring(0), -1);
        DUE.is("bring(100)", x.bring(100), -1);
        DUE.is("bring(-5)", x.bring(-5), -1);
        DUE.is("bring(1)", x.bring(1), 41);
        DUE.is("bring(99)", x.bring(99), 140);
        x.mend(0, 5, 950);
        DUE.is("bring: 999 at most", x.bring(99), 999);
        DUE.is("boards()", x.boards(), 210);
        x.mend(0, 6, 985);
        DUE.is("boards()", x.boards(), 995);
        DUE.is("boards(): 999 at most", x.boards(), 999);
        DUE.is("boards() again", x.boards(), 999);
        DUE.is("of(0, 6)", x.of(0, 6), 999);
    }

    private static void images() {
        WinterShed x = new WinterShed();
        DUE.is("back() without an image", x.back(), -5);
        x.farm(1);
        x.pass(3);
        x.boards();
        DUE.is("image()", x.image(), 1);
        x.mend(0, 7, 5);
        x.mend(0, 5, 150);
        x.mend(0, 9, 20);
        x.mend(0, 0, 7);
        x.pass(4);
        x.boards();
        DUE.is("led(3) ahead", x.led(3), 3 + 28);
        DUE.is("back()", x.back(), 1);
        DUE.is("of(0, 5)", x.of(0, 5), 37);
        DUE.is("of(0, 6)", x.of(0, 6), 210);
        DUE.is("of(0, 9)", x.of(0, 9), 1);
        DUE.is("of(0, 7): no part of it", x.of(0, 7), 5);
        DUE.is("of(0, 0): no part of it", x.of(0, 0), 7);
        DUE.is("led(0)", x.led(0), 1);
        DUE.is("led(1)", x.led(1), 3);
        DUE.is("led(3)", x.led(3), 3);
        DUE.is("led(4)", x.led(4), 0);
        DUE.is("count(3): changes stay", x.count(3), 4);
        x.pass(1);
        DUE.is("back(): the image is still kept", x.back(), 1);
        DUE.is("of(0, 5) again", x.of(0, 5), 37);
        x.pass(1);
        DUE.is("image(): a later one", x.image(), 2);
        DUE.is("back() to the later one", x.back(), 2);
    }

    private static void undoing() {
        WinterShed x = new WinterShed();
        x.farm(1);
        x.want(0, 101);
        DUE.is("undo(): farms and wants are no changes", x.undo(), -5);
        for (int what = 0; what < 10; what++) {
            x.mend(0, what, 9);
        }
        DUE.is("count(3)", x.count(3), 10);
        x.mend(0, 4, 9);
        DUE.is("count(3): the same number is none", x.count(3), 10);
        int[] first = {1, 1, 1, 1, 10, 40, 200, 1, 0, 0};
        for (int what = 9; what >= 0; what--) {
            DUE.is("undo()", x.undo(), what);
            DUE.is("of(0, " + what + ") undone", x.of(0, what), first[what]);
        }
        DUE.is("undo(): none", x.undo(), -5);
        for (int what = 0; what < 10; what++) {
            DUE.is("redo()", x.redo(), 9 - what);
            DUE.is("of(0, " + what + ") done again", x.of(0, what), 9);
        }
        DUE.is("redo(): none", x.redo(), -5);
        x.undo();
        x.undo();
        x.mend(0, 0, 9);
        DUE.is("redo(): the same number came behind", x.redo(), 1);
        x.mend(0, 0, 10);
        x.farm(3);
        DUE.is("redo(): a refusal came behind", x.redo(), 0);
        x.undo();
        x.mend(0, 0, 3);
        DUE.is("redo(): another came behind", x.redo(), -5);
        DUE.is("count(3)", x.count(3), 10);
    }

    private static void deedsAreNoChanges() {
        WinterShed x = new WinterShed();
        x.mend(0, 5, 100);
        x.mend(0, 6, 300);
        x.mend(0, 9, 4);
        x.pass(1);
        x.bring(50);
        x.boards();
        DUE.is("count(3)", x.count(3), 3);
        DUE.is("undo() of NOW", x.undo(), 2);
        DUE.is("of(0, 9)", x.of(0, 9), 0);
        DUE.is("of(0, 5): the deed stays", x.of(0, 5), 149);
        DUE.is("undo() of BEARS", x.undo(), 1);
        DUE.is("of(0, 6)", x.of(0, 6), 200);
        x.boards();
        DUE.is("redo() behind a deed", x.redo(), 1);
        DUE.is("of(0, 6) done again", x.of(0, 6), 300);
        DUE.is("undo()", x.undo(), 1);
        DUE.is("undo()", x.undo(), 0);
        DUE.is("of(0, 5) as it was before the change", x.of(0, 5), 40);
    }

    private static void fortyChanges() {
        WinterShed x = new WinterShed();
        for (int v = 1; v <= 45; v++) {
            x.mend(0, 5, 100 + v);
        }
        DUE.is("count(3): 40 at most", x.count(3), 40);
        for (int i = 39; i >= 0; i--) {
            DUE.is("undo()", x.undo(), i);
        }
        DUE.is("undo(): none", x.undo(), -5);
        DUE.is("of(0, 5): five are forgotten", x.of(0, 5), 105);
        for (int i = 39; i >= 0; i--) {
            DUE.is("redo()", x.redo(), i);
        }
        DUE.is("of(0, 5): the latest", x.of(0, 5), 145);
        DUE.is("redo(): none", x.redo(), -5);
    }
}
