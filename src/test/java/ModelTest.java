import java.util.Random;

/** All promises: long mixed runs, with wrong numbers among them, against the model. */
public final class ModelTest {
    private static final Due DUE = new Due("ModelTest");
    private static final int RUNS = 400;
    private static final int CALLS = 512;

    public static void main(String[] args) {
        for (int run = 0; run < RUNS; run++) {
            new Run(run).go();
        }
        DUE.end();
    }

    private static final class Run {
        final int run;
        final Random random;
        final UnderTerms x = new UnderTerms();
        final Model m = new Model();
        int calls = 0;

        Run(int run) {
            this.run = run;
            this.random = new Random(run);
        }

        void go() {
            setUp();
            while (calls < CALLS - 20) {
                call(random.nextInt(32));
            }
        }

        private void is(String call, int got, int want) {
            calls++;
            DUE.is("run " + run + " call " + calls + " " + call, got, want);
        }

        /** A number from least to most, now and then one beyond. */
        private int some(int least, int most) {
            int wide = random.nextInt(40);
            if (wide == 0) {
                return random.nextBoolean() ? least - 1 - random.nextInt(3) : most + 1 + random.nextInt(3);
            }
            if (wide == 1 && random.nextInt(4) == 0) {
                return random.nextInt();
            }
            return least + random.nextInt(most - least + 1);
        }

        private void say(int sign) {
            is("say(" + sign + ")", x.say(sign), m.say(sign));
        }

        private void sayText() {
            StringBuilder text = new StringBuilder();
            String letters = "nspac";
            for (int i = 0; i < 5; i++) {
                if (random.nextInt(3) == 0) {
                    text.insert(random.nextInt(text.length() + 1), letters.charAt(i));
                }
            }
            text.append(random.nextInt(4));
            if (random.nextInt(4) > 0) {
                text.append(':');
                int go = 1 + random.nextInt(31);
                go = random.nextInt(3) > 0 ? go & (1 + random.nextInt(31)) : go;
                for (int t = 0; t < 5; t++) {
                    if ((go & 1 << t) != 0) {
                        text.append(t);
                    }
                }
            }
            if (random.nextInt(6) == 0) {
                text.insert(random.nextInt(text.length() + 1), "nspac01234:x5".charAt(random.nextInt(13)));
            }
            for (char sign : text.toString().toCharArray()) {
                say(sign);
            }
            is("fault()", x.fault(), m.fault());
        }

        private void terms() {
            sayText();
            int t = some(0, 4);
            is("terms(" + t + ")", x.terms(t), m.terms(t));
            if (random.nextInt(3) > 0) {
                is("wipe()", x.wipe(), m.wipe());
            }
        }

        private void setUp() {
            for (int n = 0; n < 5; n++) {
                terms();
            }
            for (int n = 0; n < 12; n++) {
                piece();
                uses();
            }
        }

        private void piece() {
            int piece = some(0, 5);
            int what = some(0, 3);
            int v = what == 0 ? random.nextInt(3) == 0 ? some(1, 31) : 1 << random.nextInt(5)
                : what == 1 ? some(0, 1) : what == 2 ? some(0, 63) : random.nextInt(3) == 0 ? some(0, 999) : some(0, 3);
            is("piece(" + piece + ", " + what + ", " + v + ")", x.piece(piece, what, v), m.piece(piece, what, v));
        }

        private void uses() {
            int piece = random.nextInt(3) == 0 ? 5 : some(0, 5);
            int other = piece > 0 && random.nextInt(9) > 0 ? random.nextInt(Math.min(piece, 5)) : some(0, 5);
            int kind = random.nextInt(9) == 0 ? -1 : some(-1, 3);
            is("uses(" + piece + ", " + other + ", " + kind + ")", x.uses(piece, other, kind), m.uses(piece, other, kind));
        }

        private void by() {
            int number = 0;
            int members = m.pieces();
            for (int p = 5; p >= 0; p--) {
                int digit = 0;
                if ((members & 1 << p) != 0 && p != m.told(1)) {
                    int bits = m.choices(p);
                    digit = random.nextInt(9) == 0 ? some(0, 9) : random.nextInt(5);
                    for (int n = 0; n < 5 && (bits & 1 << digit) == 0 && random.nextInt(40) > 0; n++) {
                        digit = (digit + 1) % 5;
                    }
                } else if (random.nextInt(60) == 0) {
                    digit = random.nextInt(5);
                }
                number = number * 10 + digit;
            }
            int chosen = random.nextInt(30) == 0 ? some(0, 999999) : number;
            int what = some(0, 4);
            is("by(" + chosen + ", " + what + ")", x.by(chosen, what), m.by(chosen, what));
        }

        private void call(int which) {
            int a;
            int b;
            int c;
            switch (which) {
                case 0: a = some(33, 126); say(a); break;
                case 1: is("wipe()", x.wipe(), m.wipe()); break;
                case 2: is("fault()", x.fault(), m.fault()); break;
                case 3: case 4: if (calls < CALLS - 40) { terms(); } break;
                case 5: a = some(0, 4); b = some(0, 3); is("about(" + a + ", " + b + ")", x.about(a, b), m.about(a, b)); break;
                case 6: a = some(0, 4); b = some(-1, 4); is("later(" + a + ", " + b + ")", x.later(a, b), m.later(a, b)); break;
                case 7: case 8: case 9: piece(); break;
                case 10: case 11: uses(); break;
                case 12: a = some(0, 5); is("choices(" + a + ")", x.choices(a), m.choices(a)); break;
                case 13: a = random.nextInt(3) > 0 ? 5 : some(0, 5); is("whole(" + a + ")", x.whole(a), m.whole(a)); break;
                case 14: a = some(0, 99); is("coin(" + a + ")", x.coin(a), m.coin(a)); break;
                case 15: is("pieces()", x.pieces(), m.pieces()); break;
                case 16: case 17: by(); break;
                case 18: case 19: a = some(0, 2); b = some(-2, 5); is("best(" + a + ", " + b + ")", x.best(a, b), m.best(a, b)); break;
                case 20: is("good()", x.good(), m.good()); break;
                case 21: case 22: is("bar()", x.bar(), m.bar()); break;
                case 23: a = some(0, 1); is("anew(" + a + ")", x.anew(a), m.anew(a)); break;
                case 24: case 25: a = some(0, 1); is("looser(" + a + ")", x.looser(a), m.looser(a)); break;
                case 26: a = some(0, 4); b = some(0, 63); is("agree(" + a + ", " + b + ")", x.agree(a, b), m.agree(a, b)); break;
                case 27: a = some(0, 4); b = some(0, 3); c = some(0, 2);
                    is("more(" + a + ", " + b + ", " + c + ")", x.more(a, b, c), m.more(a, b, c)); break;
                case 28: a = some(-1, 4); is("names(" + a + ")", x.names(a), m.names(a)); break;
                case 29: a = some(0, 5); b = some(0, 1); is("audit(" + a + ", " + b + ")", x.audit(a, b), m.audit(a, b)); break;
                case 30: a = some(0, 1);
                    if (random.nextInt(4) > 0) {
                        is("image(" + a + ")", x.image(a), m.image(a));
                    } else {
                        is("restore(" + a + ")", x.restore(a), m.restore(a));
                    }
                    break;
                default: a = some(0, 147); is("told(" + a + ")", x.told(a), m.told(a)); break;
            }
        }
    }
}
