import java.util.ArrayList;
import java.util.List;

/** The document's KINDS as classes of Java: what the program's own acts are held against. */
final class FrostKinds {
    static final List<Integer> RAN = new ArrayList<>();

    private FrostKinds() { }

    static Frost make(int kind, int n) {
        Frost frost = switch (kind) {
            case 0 -> new Frost();
            case 1 -> new Boy();
            case 2 -> new Bride();
            case 3 -> new Night();
            case 4 -> new Dark();
            case 5 -> new Wolf();
            case 6 -> new Board();
            default -> new Straw();
        };
        frost.n = n;
        return frost;
    }

    static int act(Frost f, int act, int x) {
        RAN.clear();
        return switch (act) {
            case 0 -> f.lets(x);
            case 1 -> f.grows(x);
            case 2 -> f.leaks(x);
            default -> f.tells(x);
        };
    }

    interface Lets {
        int number();

        default int lets(int x) {
            RAN.add(1);
            return x + number();
        }
    }

    interface Tells {
        int grows(int x);

        int leaks(int x);

        default int tells(int x) {
            RAN.add(2);
            return grows(x) - leaks(1);
        }
    }

    static class Frost implements Lets, Tells {
        int n;

        public int number() {
            return n;
        }

        public int grows(int x) {
            RAN.add(10);
            return lets(x) * 2;
        }

        public int leaks(int x) {
            RAN.add(11);
            return x ^ n;
        }
    }

    static class Boy extends Frost {
        public int lets(int x) {
            RAN.add(20);
            return super.lets(x) + 3;
        }
    }

    static class Bride extends Frost {
        public int grows(int x) {
            RAN.add(30);
            return -super.grows(x);
        }
    }

    static class Night extends Bride {
        public int leaks(int x) {
            RAN.add(40);
            return super.leaks(x) * 3;
        }

        public int grows(int x) {
            RAN.add(41);
            return super.grows(x + 1);
        }
    }

    static class Dark extends Boy {
        public int leaks(int x) {
            RAN.add(50);
            return super.leaks(x) - lets(2);
        }
    }

    static class Wolf extends Night {
        public int tells(int x) {
            RAN.add(60);
            return super.tells(x) ^ 5;
        }
    }

    static class Board extends Frost {
        public int lets(int x) {
            RAN.add(70);
            return super.lets(x) * 2;
        }
    }

    static class Straw extends Dark {
        public int grows(int x) {
            RAN.add(80);
            return super.grows(x) + leaks(2);
        }

        public int tells(int x) {
            RAN.add(81);
            return super.tells(x) - 1;
        }
    }
}
